/-! numbers in a file -/
def bya (L : List Int) (i : Int) : Int := L.getD i.toNat 0
/-- the first byte counts least -/
def litF (L : List Int) : Int → Nat → Int
  | _, 0 => 0
  | p, k + 1 => bya L p + 256 * litF L (p + 1) k
/-- the first byte counts most -/
def bigF (L : List Int) (p : Int) : Nat → Int
  | 0 => 0
  | k + 1 => 256 * bigF L p k + bya L (p + k)
def num (L : List Int) (b p : Int) (n : Nat) : Int := if b = 0 then litF L p n else bigF L p n
theorem p256 (i : Nat) : (2 : Int) ^ (8 * (i + 1)) = 256 * 2 ^ (8 * i) := by
  rw [show 8 * (i + 1) = 8 * i + 8 by omega, Int.pow_add]; omega
theorem litF_snoc (L : List Int) : ∀ (i : Nat) (p : Int), litF L p (i + 1) = litF L p i + bya L (p + i) * 2 ^ (8 * i)
  | 0, p => by simp [litF]
  | i + 1, p => by
    have ih := litF_snoc L i (p + 1)
    rw [litF, ih, litF, Int.mul_add, p256]
    have e : p + 1 + (i : Int) = p + ((i + 1 : Nat) : Int) := by omega
    rw [e, ← Int.mul_assoc, Int.mul_comm 256 (bya L _), ← Int.mul_assoc, Int.add_assoc]
section NU
variable {L : List Int} {b : Int}
theorem bya_R (hB : isB L) (i : Int) : 0 ≤ bya L i ∧ bya L i < 256 := hB.get _
theorem litF_R (hB : isB L) : ∀ (n : Nat) (p : Int), 0 ≤ litF L p n ∧ litF L p n < 2 ^ (8 * n)
  | 0, p => by simp [litF]
  | n + 1, p => by
    have h1 := litF_R hB n (p + 1)
    have h2 := bya_R hB p
    rw [litF, p256]
    omega
theorem bigF_R (hB : isB L) (p : Int) : ∀ n : Nat, 0 ≤ bigF L p n ∧ bigF L p n < 2 ^ (8 * n)
  | 0 => by simp [bigF]
  | n + 1 => by
    have h1 := bigF_R hB p n
    have h2 := bya_R hB (p + n)
    rw [bigF, p256]
    omega
theorem num_R (hB : isB L) (p : Int) (n : Nat) : 0 ≤ num L b p n ∧ num L b p n < 2 ^ (8 * n) := by
  unfold num; split
  · exact litF_R hB n p
  · exact bigF_R hB p n
theorem num_2 (hB : isB L) (p : Int) : 0 ≤ num L b p 2 ∧ num L b p 2 < 65536 := num_R hB p 2
theorem num_4 (hB : isB L) (p : Int) : 0 ≤ num L b p 4 ∧ num L b p 4 < 4294967296 := num_R hB p 4
theorem zor_comm (x y : Int) : zor x y = zor y x := by unfold zor; rw [Nat.or_comm]
end NU
/-- the class's file -/
def cL (h : fx_H) (L : List Int) (b : Int) : Prop := cW h (L, []) ∧ h.2.1 1 2 = b ∧ (b = 0 ∨ b = 1) ∧ L.length ≤ 2000 ∧ isB L
/-- the reference's file -/
def mL (h : fx_H) (L : List Int) (b : Int) : Prop := mW h (L, []) ∧ h.2.1 31 11 = b ∧ (b = 0 ∨ b = 1) ∧ L.length ≤ 2000 ∧ isB L
section NV
variable {l : Launch} {Q : Option Value → fx_H → Prop} {h : fx_H} {a : Nat → Nat} {pp dd : Nat} {L : List Int} {b : Int}
theorem cL.byte (c : cL h L b) {x : Int} (hx : 0 ≤ x) : cB h x = bya L x := by
  unfold cB bya
  have hl := c.1.len
  by_cases hz : x < h.2.1 1 1
  · rw [if_pos ⟨hx, hz⟩]; exact c.1.2.2.1 x.toNat (by show x.toNat < L.length; omega)
  · rw [if_neg (fun z => hz z.2), List.getD_eq_getElem?_getD, List.getElem?_eq_none (by omega)]; rfl
theorem m_byteL (hS : h.1 = fx_S0 a pp dd) (c : cL h L b) {x : Int} (hx : 0 ≤ x) (hx2 : x < 2147483648) (k : Q (some (.int (zI (bya L x)))) h) : fx_Mt l M_BY_byteAt (0, 0) [.ref 1, .int (zI x)] h Q := by
  have hl := c.1.len
  have := c.2.2.2.1
  refine m_byteAt hS (by omega) (by omega) (by omega) ?_
  rw [c.byte hx]; exact k
theorem m_numberAt {p : Int} {n : Nat} (hS : h.1 = fx_S0 a pp dd) (c : cL h L b) (hp : 0 ≤ p) (hp2 : p < 1000000) (hn : n ≤ 4) (k : Q (some (.long (zL (num L b p n)))) h) : fx_Mt l M_BY_numberAt (0, 0) [.ref 1, .int (zI p), .int (zI (n : Nat))] h Q := by
  obtain ⟨c1, c2, c3, c4, c5⟩ := id c
  refine e_BY_numberAt hS ?_
  have hpow : ∀ i : Nat, i ≤ 4 → (2 : Int) ^ (8 * i) ≤ 4294967296 := by decide
  have loop : ∀ (m i : Nat), i + m = n → fx_V l M_BY_numberAt (0, 0) Q 0 0 5 [some (.ref 1), some (.int (zI p)), some (.int (zI (n : Nat))), some (.long (zL (if b = 0 then litF L p i else bigF L p i * 2 ^ (8 * (n - i))))), none, some (.int (zI (i : Nat)))] [] h := by
    intro m
    induction m with
    | zero =>
      intro i hi
      have hin : i = n := by omega
      refine w_BY_numberAt_5 hS ⟨by omega, by omega, fun _ => ?_, fun z => by omega⟩
      rw [hin, Nat.sub_self]
      unfold num at k
      split
      · rename_i hz; rw [if_pos hz] at k; exact k
      · rename_i hz; rw [if_neg hz] at k; simpa using k
    | succ m ih =>
      intro i hi
      have ih1 := ih (i + 1) (by omega)
      have hb := bya_R c5 (p + i)
      have e : ((i : Nat) : Int) + 1 = ((i + 1 : Nat) : Int) := by omega
      refine w_BY_numberAt_5 hS ⟨by omega, by omega, fun z => by omega, fun _ => ?_⟩
      refine m_byteL hS c (by omega) (by omega) ⟨_, rfl, rfl, by omega, ?_⟩
      refine m_shiftOf hS (by rw [c2]; exact c3) ⟨_, rfl, rfl, by split <;> omega, ?_⟩
      rw [c2, e]
      have hpi := hpow i (by omega)
      have hpp := two_pow_pos (8 * i)
      by_cases hz : b = 0
      · rw [if_pos hz] at ih1
        rw [if_pos hz, if_pos hz, show (8 * ((i : Nat) : Int)).toNat = 8 * i by omega]
        have hl := litF_R c5 i p
        have hm : bya L (p + i) * 2 ^ (8 * i) ≤ 255 * 2 ^ (8 * i) := Int.mul_le_mul_of_nonneg_right (by omega) (by omega)
        have hm0 : 0 ≤ bya L (p + i) * 2 ^ (8 * i) := Int.mul_nonneg (by omega) (by omega)
        refine ⟨hl.1, by omega, hm0, by omega, ?_⟩
        rw [zor_comm, zor_add hb.1 hl.1 hl.2, Int.add_comm, ← litF_snoc]
        exact ih1
      · rw [if_neg hz] at ih1
        rw [if_neg hz, if_neg hz, show (8 * (((n : Nat) : Int) - 1 - ((i : Nat) : Int))).toNat = 8 * (n - (i + 1)) by omega]
        have hl := bigF_R c5 p i
        have hq := two_pow_pos (8 * (n - (i + 1)))
        have hq2 := hpow (n - (i + 1)) (by omega)
        have he : (2 : Int) ^ (8 * (n - i)) = 256 * 2 ^ (8 * (n - (i + 1))) := by rw [show n - i = n - (i + 1) + 1 by omega, p256]
        have hm : bya L (p + i) * 2 ^ (8 * (n - (i + 1))) ≤ 255 * 2 ^ (8 * (n - (i + 1))) := Int.mul_le_mul_of_nonneg_right (by omega) (by omega)
        have hm0 : 0 ≤ bya L (p + i) * 2 ^ (8 * (n - (i + 1))) := Int.mul_nonneg (by omega) (by omega)
        have hx0 : 0 ≤ bigF L p i * 2 ^ (8 * (n - i)) := Int.mul_nonneg hl.1 (by omega)
        have hx1 : bigF L p i * 2 ^ (8 * (n - i)) ≤ 2 ^ (8 * i) * 2 ^ (8 * (n - i)) := Int.mul_le_mul_of_nonneg_right (by omega) (by omega)
        rw [← Int.pow_add, show 8 * i + 8 * (n - i) = 8 * n by omega] at hx1
        have hx2 := hpow n hn
        refine ⟨hx0, by omega, hm0, by omega, ?_⟩
        rw [zor_add hl.1 hm0 (by omega)]
        have e2 : bigF L p i * 2 ^ (8 * (n - i)) + bya L (p + i) * 2 ^ (8 * (n - (i + 1))) = bigF L p (i + 1) * 2 ^ (8 * (n - (i + 1))) := by
          rw [bigF, he, Int.add_mul, Int.mul_comm 256 (bigF L p i), Int.mul_assoc]
        rw [e2]
        exact ih1
  have := loop n 0 (Nat.zero_add _)
  simpa [litF, bigF] using this
theorem m_number {p : Int} {n : Nat} (hS : h.1 = fx_S0 a pp dd) (c : mL h L b) (hp : 0 ≤ p) (hp2 : p < 100000000000) (hn1 : 1 ≤ n) (hn : n ≤ 4) (k : Q (some (.long (zL (if p + n ≤ L.length then num L b p n else 0)))) h) : fx_Mt l M_MO_number (0, 0) [.ref 31, .long (zL p), .int (zI (n : Nat))] h Q := by
  obtain ⟨c1, c2, c3, c4, c5⟩ := id c
  have hl : h.2.1 31 5 = L.length := c1.1
  have hg : ∀ x : Int, 0 ≤ x → x < L.length → h.2.2.1 33 x.toNat = bya L x := fun x h1 h2 => c1.2.2.2 x.toNat (by show x.toNat < L.length; omega)
  refine e_MO_number hS ?_
  by_cases hz : p + n ≤ L.length
  · rw [if_pos hz] at k
    have loop : ∀ (m i : Nat), i + m = n → fx_V l M_MO_number (0, 0) Q 0 0 6 [some (.ref 31), some (.long (zL p)), none, some (.int (zI (n : Nat))), some (.long (zL (if b = 0 then litF L (p + (n - (i : Nat))) i else bigF L p i))), none, some (.int (zI (i : Nat)))] [] h := by
      intro m
      induction m with
      | zero =>
        intro i hi
        have hin : i = n := by omega
        refine w_MO_number_6 hS ⟨by omega, by omega, fun _ => ?_, fun z => by omega⟩
        rw [hin, Int.sub_self, Int.add_zero]
        exact k
      | succ m ih =>
        intro i hi
        have ih1 := ih (i + 1) (by omega)
        have e : ((i : Nat) : Int) + 1 = ((i + 1 : Nat) : Int) := by omega
        have hzc : ¬ 0 < zC (p + n) (h.2.1 31 5) := by unfold zC; split; omega; split <;> omega
        refine w_MO_number_6 hS ⟨by omega, by omega, fun z => by omega, fun _ => ⟨by omega, by omega, by omega, fun z => absurd z hzc, fun _ => ?_⟩⟩
        rw [c2, e]
        refine ⟨by omega, fun z => ?_, fun z => ?_⟩
        · rw [if_pos z] at ih1 ⊢
          have hb := bya_R c5 (p + (n - 1 - i))
          rw [hg _ (by omega) (by omega)]
          refine ⟨by omega, by omega, by omega, ?_⟩
          have e2 : litF L (p + (n - ((i + 1 : Nat) : Int))) (i + 1) = litF L (p + (n - (i : Nat))) i * 256 + bya L (p + (n - 1 - i)) := by
            rw [litF, show p + ((n : Int) - ((i + 1 : Nat) : Int)) + 1 = p + ((n : Int) - (i : Nat)) by omega, show p + ((n : Int) - ((i + 1 : Nat) : Int)) = p + ((n : Int) - 1 - i) by omega]; omega
          rw [e2] at ih1
          exact ih1
        · rw [if_neg z] at ih1 ⊢
          have hb := bya_R c5 (p + i)
          rw [hg _ (by omega) (by omega)]
          refine ⟨by omega, by omega, by omega, ?_⟩
          rw [bigF, Int.mul_comm] at ih1
          exact ih1
    have := loop n 0 (Nat.zero_add _)
    simpa [litF, bigF] using this
  · rw [if_neg hz] at k
    have hzc : 0 < zC (p + n) (h.2.1 31 5) := by unfold zC; split; omega; split <;> omega
    exact w_MO_number_6 hS ⟨by omega, by omega, fun z => by omega, fun _ => ⟨by omega, by omega, by omega, fun _ => k, fun z => absurd hzc z⟩⟩
/-- the header -/
def hdOK (L : List Int) : Prop := 8 ≤ L.length ∧ bya L 0 = bya L 1 ∧ (bya L 0 = 73 ∨ bya L 0 = 77) ∧ num L (if bya L 0 = 77 then 1 else 0) 2 2 = 42
theorem cW.uF12 {h : fx_H} {L : List Int} {x : Int} (c : cW h (L, [])) : cW (fx_uF h 1 2 x) (L, []) := by
  obtain ⟨c1, c2, c3, -⟩ := c
  exact ⟨by rw [uF_n _ _ (by omega)]; exact c1, by rw [uF_n _ _ (by omega)]; exact c2, c3, fun z => absurd rfl z⟩
theorem m_understandHeader {b0 : Int} (hS : h.1 = fx_S0 a pp dd) (c : cL h L b0) (k1 : hdOK L → ∀ h2, sm (fun j => j = 1) h h2 → cL h2 L (if bya L 0 = 77 then 1 else 0) → Q (some (.int (zI 1))) h2) (k0 : ¬ hdOK L → ∀ h2 b2, sm (fun j => j = 1) h h2 → cL h2 L b2 → Q (some (.int (zI 0))) h2) : fx_Mt l M_BY_understandHeader (0, 0) [.ref 1] h Q := by
  obtain ⟨c1, c2, c3, c4, c5⟩ := id c
  have hl := c1.len
  have b0r := bya_R c5 0
  have b1r := bya_R c5 1
  refine e_BY_understandHeader hS (m_byteL hS c (by omega) (by omega) ⟨_, rfl, rfl, by omega, fun z => ?_, fun z => ?_⟩)
  · exact k0 (fun q => by have := q.1; omega) h _ sm.rf c
  · refine m_byteL hS c (by omega) (by omega) ⟨_, rfl, rfl, by omega, by omega, fun z2 => k0 (fun q => z2 q.2.1) h _ sm.rf c, fun z2 => ?_⟩
    have tail : ∀ v : Int, (v = if bya L 0 = 77 then 1 else 0) → (bya L 0 = 73 ∨ bya L 0 = 77) → fx_Mt l M_BY_numberAt (0, 0) [.ref 1, .int (zI 2), .int (zI 2)] (fx_uF h 1 2 v) (fun u h14 => ∃ r16 : Int, u = some (.long (zL r16)) ∧ h14.1 = (fx_uF h 1 2 v).1 ∧ zRL r16 ∧ ((¬ (zC r16 42) = 0 → Q (some (.int (zI 0))) h14) ∧ ((zC r16 42) = 0 → Q (some (.int (zI 1))) h14))) := by
      intro v hv hq
      have cv : cL (fx_uF h 1 2 v) L v := ⟨c1.uF12, uF_s _ _ _ _, by rw [hv]; split <;> omega, c4, c5⟩
      have nr := num_2 (b := v) c5 2
      refine m_numberAt (n := 2) (h := fx_uF h 1 2 v) hS cv (by omega) (by omega) (by omega) ⟨_, rfl, rfl, by omega, fun z3 => ?_, fun z3 => ?_⟩
      · exact k0 (fun q => z3 (zC_0.mpr (by rw [hv]; exact q.2.2.2))) _ _ (sm.uF rfl) cv
      · refine k1 ⟨by omega, z2, hq, by rw [← hv]; exact zC_0.mp z3⟩ _ (sm.uF rfl) ?_
        rw [← hv]; exact cv
    refine ⟨fun z3 => ⟨fun z4 => tail 0 (by rw [if_neg z4]) (Or.inl z3), fun z4 => by omega⟩, fun z3 => ⟨fun z4 => ⟨fun z5 => absurd z4 z5, fun _ => tail 1 (by rw [if_pos z4]) (Or.inr z4)⟩, fun z4 => k0 (fun q => q.2.2.1.elim z3 z4) h _ sm.rf c⟩⟩
end NV
