/-! the scheme RUNS in writing -/
theorem ff_R {q : Int → Prop} [DecidablePred q] : ∀ (m : Nat) (x : Int), x ≤ fp_first q x m ∧ fp_first q x m ≤ x + m
  | 0, x => ⟨Int.le_refl _, by simp [fp_first]⟩
  | m + 1, x => by
    have := ff_R (q := q) m (x + 1)
    unfold fp_first
    split <;> omega
def eD (r : Int → Int) : Nat → Int → Int
  | 0, i => i + 1
  | m + 1, i => if r i = r (i + 1) then i else eD r m (i + 1)
theorem eD_R (r : Int → Int) : ∀ (m : Nat) (i : Int), i ≤ eD r m i ∧ eD r m i ≤ i + m + 1
  | 0, i => by simp [eD]; omega
  | m + 1, i => by
    have := eD_R r m (i + 1)
    unfold eD
    split <;> omega
def seg (r : Int → Int) (b e : Int) : List Int := (List.range' 0 (e - b).toNat).map fun j : Nat => r (b + j)
/-- where the run of equal bytes that begins at b ends -/
def eS (r : Int → Int) (n b : Int) : Int := fp_first (fun j => r j ≠ r b) (b + 1) (n - (b + 1)).toNat
def enc (r : Int → Int) (n : Int) : Nat → Int → List Int
  | 0, _ => []
  | k + 1, b => if n ≤ b then [] else if 1 < eS r n b - b then (257 - (eS r n b - b)) :: r b :: enc r n k (eS r n b) else (eD r (n - 1 - b).toNat b - b - 1) :: (seg r b (eD r (n - 1 - b).toNat b) ++ enc r n k (eD r (n - 1 - b).toNat b))
theorem eS_R {r : Int → Int} {n b : Int} (hb : b < n) : b + 1 ≤ eS r n b ∧ eS r n b ≤ n := by
  have := ff_R (q := fun j => r j ≠ r b) (n - (b + 1)).toNat (b + 1)
  unfold eS
  omega
theorem eD_gt {r : Int → Int} {n b : Int} (hb : b < n) (h1 : ¬ 1 < eS r n b - b) : b + 1 ≤ eD r (n - 1 - b).toNat b ∧ eD r (n - 1 - b).toNat b ≤ n := by
  have hR := eD_R r (n - 1 - b).toNat b
  refine ⟨?_, by omega⟩
  cases hm : (n - 1 - b).toNat with
  | zero => simp [eD]
  | succ m =>
    have hne : ¬ r b = r (b + 1) := by
      intro hh
      apply h1
      unfold eS
      have e : (n - (b + 1)).toNat = m + 1 := by omega
      rw [e, fp_first, if_neg (fun z => z hh.symm)]
      have := (ff_R (q := fun j => r j ≠ r b) m (b + 1 + 1)).1
      omega
    rw [eD, if_neg hne]
    exact (eD_R r m (b + 1)).1
theorem enc_fuel (r : Int → Int) (n : Int) : ∀ (k k2 : Nat) (b : Int), (n - b).toNat ≤ k → (n - b).toNat ≤ k2 → enc r n k b = enc r n k2 b
  | 0, 0, b, _, _ => rfl
  | 0, k2 + 1, b, h1, _ => by rw [enc, enc, if_pos (by omega)]
  | k + 1, 0, b, _, h2 => by rw [enc, enc, if_pos (by omega)]
  | k + 1, k2 + 1, b, h1, h2 => by
    rw [enc, enc]
    by_cases hb : n ≤ b
    · rw [if_pos hb, if_pos hb]
    · rw [if_neg hb, if_neg hb]
      by_cases hs : 1 < eS r n b - b
      · rw [if_pos hs, if_pos hs, enc_fuel r n k k2 _ (by omega) (by omega)]
      · have := eD_gt (by omega) hs
        rw [if_neg hs, if_neg hs, enc_fuel r n k k2 _ (by omega) (by omega)]
/-- the bytes of a row from b on -/
def encR (r : Int → Int) (n b : Int) : List Int := enc r n (n - b).toNat b
theorem encR_end {r : Int → Int} {n b : Int} (h : n ≤ b) : encR r n b = [] := by
  unfold encR
  rw [show (n - b).toNat = 0 by omega]; rfl
theorem encR_same {r : Int → Int} {n b : Int} (h : b < n) (hs : 1 < eS r n b - b) : encR r n b = (257 - (eS r n b - b)) :: r b :: encR r n (eS r n b) := by
  have := eS_R (r := r) h
  unfold encR
  obtain ⟨k, hk⟩ : ∃ k, (n - b).toNat = k + 1 := ⟨(n - b).toNat - 1, by omega⟩
  rw [hk, enc, if_neg (by omega), if_pos hs, enc_fuel r n k (n - eS r n b).toNat _ (by omega) (by omega)]
theorem encR_diff {r : Int → Int} {n b : Int} (h : b < n) (hs : ¬ 1 < eS r n b - b) : encR r n b = (eD r (n - 1 - b).toNat b - b - 1) :: (seg r b (eD r (n - 1 - b).toNat b) ++ encR r n (eD r (n - 1 - b).toNat b)) := by
  have := eD_gt h hs
  unfold encR
  obtain ⟨k, hk⟩ : ∃ k, (n - b).toNat = k + 1 := ⟨(n - b).toNat - 1, by omega⟩
  rw [hk, enc, if_neg (by omega), if_neg hs, enc_fuel r n k (n - eD r (n - 1 - b).toNat b).toNat _ (by omega) (by omega)]
theorem seg_len (r : Int → Int) (b e : Int) : (seg r b e).length = (e - b).toNat := by simp [seg]
theorem encR_len (r : Int → Int) (n : Int) : ∀ (k : Nat) (b : Int), (n - b).toNat ≤ k → (encR r n b).length ≤ 2 * (n - b).toNat
  | 0, b, h => by rw [encR_end (by omega)]; simp
  | k + 1, b, h => by
    by_cases hb : n ≤ b
    · rw [encR_end hb]; simp
    · by_cases hs : 1 < eS r n b - b
      · have h1 := eS_R (r := r) (show b < n by omega)
        have := encR_len r n k (eS r n b) (by omega)
        rw [encR_same (by omega) hs]
        simp only [List.length_cons]
        omega
      · have h1 := eD_gt (r := r) (show b < n by omega) hs
        have := encR_len r n k (eD r (n - 1 - b).toNat b) (by omega)
        rw [encR_diff (by omega) hs]
        simp only [List.length_cons, List.length_append, seg_len]
        omega
/-- the whole strip -/
def runs (g w : Int) (f : Int → Int → Int) (y : Int) : Nat → List Int
  | 0 => []
  | m + 1 => encR (fun k => rbyte g f y k) (rbn g w) 0 ++ runs g w f (y + 1) m
theorem runs_len {g w t : Int} {f : Int → Int → Int} (h : pOK g w t f) : ∀ (m : Nat) (y : Int), (runs g w f y m).length ≤ m * (2 * (rbn g w).toNat)
  | 0, y => by simp [runs]
  | m + 1, y => by
    have h1 := encR_len (fun k => rbyte g f y k) (rbn g w) _ 0 (Nat.le_refl _)
    have h2 := runs_len h m (y + 1)
    rw [runs, List.length_append, Nat.succ_mul]
    rw [Int.sub_zero] at h1
    omega
section RU
variable {l : Launch} {Q : Option Value → fx_H → Prop} {h : fx_H} {a : Nat → Nat} {pp dd : Nat} {r : Int → Int}
/-- the row that waits -/
def cR (h : fx_H) (r : Int → Int) (n : Int) : Prop := ∀ i : Int, 0 ≤ i → i < n → h.2.2.1 15 i.toNat = r i
theorem m_endOfSame {b n : Int} (hS : h.1 = fx_S0 a pp dd) (cr : cR h r n) (hr : ∀ i, 0 ≤ r i ∧ r i < 256) (hb : 0 ≤ b) (hbn : b < n) (hn : n ≤ 20) (k : Q (some (.int (zI (eS r n b)))) h) : fx_Mt l M_RU_endOfSame (0, 0) [.ref 14, .int (zI b), .int (zI n)] h Q := by
  refine e_RU_endOfSame hS ?_
  have loop : ∀ (m : Nat) (i : Int), b + 1 ≤ i → i + m = n → Q (some (.int (zI (fp_first (fun j => r j ≠ r b) i m)))) h → fx_V l M_RU_endOfSame (0, 0) Q 0 0 4 [some (.ref 14), some (.int (zI b)), some (.int (zI n)), some (.int (zI i))] [] h := by
    intro m
    induction m with
    | zero =>
      intro i h1 h2 kq
      have hi : i = n := by omega
      exact w_RU_endOfSame_4 hS ⟨by omega, by omega, fun _ => by rw [← hi]; exact kq, fun z => by omega⟩
    | succ m ih =>
      intro i h1 h2 k
      have r1 := hr i
      have r2 := hr b
      unfold fp_first at k
      refine w_RU_endOfSame_4 hS ⟨by omega, by omega, fun z => by omega, fun _ => ⟨by omega, by omega, by omega, by omega, ?_⟩⟩
      rw [cr i (by omega) (by omega), cr b (by omega) (by omega)]
      refine ⟨by omega, by omega, fun z => ?_, fun z => ?_⟩
      · rw [if_neg (fun q => q z)] at k
        exact ih (i + 1) (by omega) (by omega) k
      · rw [if_pos z] at k
        exact k
  exact loop _ (b + 1) (by omega) (by omega) k
theorem m_endOfDifferent {b n : Int} (hS : h.1 = fx_S0 a pp dd) (cr : cR h r n) (hr : ∀ i, 0 ≤ r i ∧ r i < 256) (hb : 0 ≤ b) (hbn : b < n) (hn : n ≤ 20) (k : Q (some (.int (zI (eD r (n - 1 - b).toNat b)))) h) : fx_Mt l M_RU_endOfDifferent (0, 0) [.ref 14, .int (zI b), .int (zI n)] h Q := by
  refine e_RU_endOfDifferent hS ?_
  have loop : ∀ (m : Nat) (i : Int), b ≤ i → i + m + 1 = n → Q (some (.int (zI (eD r m i)))) h → fx_V l M_RU_endOfDifferent (0, 0) Q 0 0 2 [some (.ref 14), none, some (.int (zI n)), some (.int (zI i))] [] h := by
    intro m
    induction m with
    | zero =>
      intro i h1 h2 kq
      have hi : n = i + 1 := by omega
      exact w_RU_endOfDifferent_2 hS ⟨by omega, by omega, fun _ => by rw [hi]; exact kq, fun z => by omega⟩
    | succ m ih =>
      intro i h1 h2 k
      have r1 := hr i
      have r2 := hr (i + 1)
      unfold eD at k
      refine w_RU_endOfDifferent_2 hS ⟨by omega, by omega, fun z => by omega, fun _ => ⟨by omega, by omega, by omega, by omega, ?_⟩⟩
      rw [cr i (by omega) (by omega), cr (i + 1) (by omega) (by omega)]
      refine ⟨by omega, by omega, fun z => ?_, fun z => ?_⟩
      · rw [if_neg z] at k
        exact ih (i + 1) (by omega) (by omega) k
      · rw [if_pos z] at k
        exact k
  exact loop _ b (Int.le_refl _) (by omega) k
theorem cR.cs {h h2 : fx_H} {r : Int → Int} {n : Int} (c : cR h r n) (a : cs h h2) : cR h2 r n := fun i h1 h3 => by rw [a.1.2.2.1 15 _ (by omega)]; exact c i h1 h3
theorem m_packRow {L : List Int} {n : Int} (hS : h.1 = fx_S0 a pp dd) (cr : cR h r n) (hr : ∀ i, 0 ≤ r i ∧ r i < 256) (hn0 : 0 ≤ n) (hn : n ≤ 20) (cw : cW h (L, [])) (cap : L.length + 2 * n.toNat ≤ 2000) (k : ∀ h2, cs h h2 → cW h2 (L ++ encR r n 0, []) → Q none h2) : fx_Mt l M_RU_packRow (0, 0) [.ref 14, .int (zI n)] h Q := by
  refine e_RU_packRow hS ?_
  have loop : ∀ (m : Nat) (b st : Int) (h3 : fx_H) (L3 : List Int), (n - b).toNat ≤ m → 0 ≤ st → st ≤ b → b ≤ n → L3.length + 2 * (n - b).toNat ≤ 2000 → cs h h3 → cW h3 (L3, []) → (∀ h2, cs h h2 → cW h2 (L3 ++ encR r n b, []) → Q none h2) →
      fx_V l M_RU_packRow (0, 0) Q 0 0 4 [some (.ref 14), some (.int (zI n)), some (.int (zI b)), some (.int (zI st)), none, none] [] h3 := by
    intro m
    induction m with
    | zero =>
      intro b st h3 L3 hm hst hb hbn cap c3 w3 k
      have k2 : Q none h3 := k h3 c3 (by rw [encR_end (by omega)]; simpa using w3)
      exact w_RU_packRow_4 (c3.1.1.trans hS) ⟨by omega, by omega, fun _ => k2, fun z => ⟨by omega, fun _ => k2, fun z => by omega⟩⟩
    | succ m ih =>
      intro b st h3 L3 hm hst hb hbn cap c3 w3 k
      by_cases hend : n ≤ b
      · have k2 : Q none h3 := k h3 c3 (by rw [encR_end hend]; simpa using w3)
        exact w_RU_packRow_4 (c3.1.1.trans hS) ⟨by omega, by omega, fun _ => k2, fun z => ⟨by omega, fun _ => k2, fun z => absurd hend z⟩⟩
      · have hS3 := c3.1.1.trans hS
        have hes := eS_R (r := r) (show b < n by omega)
        refine w_RU_packRow_4 hS3 ⟨by omega, by omega, fun z => by omega, fun _ => ⟨by omega, fun z => by omega, fun _ => ?_⟩⟩
        refine m_endOfSame hS3 (cr.cs c3) hr (by omega) (by omega) hn ⟨_, rfl, rfl, by omega, fun z => ?_, fun z => ?_⟩
        · have hs : ¬ 1 < eS r n b - b := by omega
          have hed := eD_gt (show b < n by omega) hs
          rw [encR_diff (by omega) hs] at k
          refine m_endOfDifferent hS3 (cr.cs c3) hr (by omega) (by omega) hn ⟨_, rfl, rfl, ?_⟩
          refine m_append hS3 w3 (by omega) fun h4 c4 w4 => ⟨rfl, c4.1.1, ?_⟩
          generalize eD r (n - 1 - b).toNat b = e at hed k w4 ⊢
          have seg_loop : ∀ (j i : Nat) (h5 : fx_H) (L5 : List Int), i + j = (e - b).toNat → L5.length + j + 2 * (n - e).toNat ≤ 2000 → cs h h5 → cW h5 (L5, []) → (∀ h2, cs h h2 → cW h2 (L5 ++ (List.range' i j).map (fun j : Nat => r (b + j)) ++ encR r n e, []) → Q none h2) →
              fx_V l M_RU_packRow (0, 0) Q 0 0 85 [some (.ref 14), some (.int (zI n)), none, some (.int (zI st)), some (.int (zI e)), some (.int (zI (b + (i : Nat))))] [] h5 := by
            intro j
            induction j with
            | zero =>
              intro i h5 L5 hi cap5 c5 w5 k5
              refine w_RU_packRow_85 (c5.1.1.trans hS) ⟨by omega, by omega, fun _ => ?_, fun z => by omega⟩
              exact ih e (st + 1) h5 L5 (by omega) (by omega) (by omega) (by omega) (by omega) c5 w5 fun h6 c6 w6 => k5 h6 c6 (by simpa using w6)
            | succ j ihj =>
              intro i h5 L5 hi cap5 c5 w5 k5
              refine w_RU_packRow_85 (c5.1.1.trans hS) ⟨by omega, by omega, fun z => by omega, fun _ => ⟨by omega, by omega, ?_⟩⟩
              rw [cr.cs c5 (b + i) (by omega) (by omega)]
              refine m_append (c5.1.1.trans hS) w5 (by omega) fun h6 c6 w6 => ⟨rfl, c6.1.1, ?_⟩
              have e9 : b + ((i : Nat) : Int) + 1 = b + ((i + 1 : Nat) : Int) := by omega
              rw [e9]
              refine ihj (i + 1) h6 _ (by omega) (by simp; omega) (c5.tr c6) w6 fun h7 c7 w7 => k5 h7 c7 ?_
              rw [List.range'_succ, List.map_cons]
              simpa using w7
          have := seg_loop (e - b).toNat 0 h4 _ (Nat.zero_add _) (by simp; omega) (c3.tr c4) w4 fun h7 c7 w7 => k h7 c7 (by simpa [seg] using w7)
          simpa using this
        · have hs : 1 < eS r n b - b := by omega
          rw [encR_same (by omega) hs] at k
          refine m_append hS3 w3 (by omega) fun h4 c4 w4 => ⟨rfl, c4.1.1, by omega, by omega, ?_⟩
          rw [cr.cs (c3.tr c4) b (by omega) (by omega)]
          refine m_append (c4.1.1.trans hS3) w4 (by simp; omega) fun h5 c5 w5 => ⟨rfl, c5.1.1, ?_⟩
          exact ih _ (st + 1) h5 _ (by omega) (by omega) (by omega) (by omega) (by simp; omega) ((c3.tr c4).tr c5) w5 fun h6 c6 w6 => k h6 c6 (by simpa using w6)
  exact loop _ 0 0 h L (Nat.le_refl _) (by omega) (by omega) hn0 (by rw [Int.sub_zero]; exact cap) cs.rf cw k
end RU
