/-! the scheme TABLE in writing -/
theorem cW.sm {P : Nat → Prop} {h h2 : fx_H} {s : WS} (c : cW h s) (a : sm P h h2) (h1 : ¬ P 1) (h3 : ¬ P 2) : cW h2 s := by
  obtain ⟨c1, c2, c3, c4⟩ := c
  exact ⟨by rw [a.2.1 1 1 h1]; exact c1, by rw [a.2.1 1 3 h1]; exact c2, fun i hi => by rw [a.2.2.1 2 i h3]; exact c3 i hi, fun z => by rw [a.2.2.1 2 _ h3]; exact c4 z⟩
/-- the last entry below n that is e and one byte more; 0 if there is none -/
def lst (D1 : Nat → Int) (e : Int) : Nat → Int
  | 0 => 0
  | n + 1 => if D1 n = e then 258 + n else lst D1 e n
def fnd (D1 D2 : Nat → Int) (e b : Int) : Nat → Int
  | 0 => 0
  | n + 1 => if D1 n = e ∧ D2 n = b then 258 + n else fnd D1 D2 e b n
def dg (n : Int) : Int := if 255 ≤ n then (if 767 ≤ n then 11 else 10) else 9
theorem dg_R (n : Int) : 9 ≤ dg n ∧ dg n ≤ 11 := by unfold dg; split <;> (try split) <;> omega
def du (D : Nat → Int) (n : Nat) (x : Int) : Nat → Int := fun j => if j = n then x else D j
theorem du_s (D : Nat → Int) (n : Nat) (x : Int) : du D n x n = x := if_pos rfl
theorem du_n (D : Nat → Int) {n k : Nat} (x : Int) (h : k ≠ n) : du D n x k = D k := if_neg h
def tabE (B : Nat → Int) : Nat → Nat → Nat → (Nat → Int) → (Nat → Int) → Int → Int → WS → WS
  | 0, _, _, _, _, e, since, s => wbits (wbits s e (dg (since + 1)).toNat) 257 (dg (since + 1 + 1)).toNat
  | m + 1, i, n, D1, D2, e, since, s => if fnd D1 D2 e (B i) n = 0 then tabE B m (i + 1) (n + 1) (du D1 n e) (du D2 n (B i)) (B i) (since + 1) (wbits s e (dg (since + 1)).toNat) else tabE B m (i + 1) n D1 D2 (fnd D1 D2 e (B i) n) since s
def tabW (B : Nat → Int) (N : Nat) (s : WS) : WS := wrest (tabE B (N - 1) 1 0 (fun _ => 0) (fun _ => 0) (B 0) 0 (wbits s 256 9))
theorem fnd_R (D1 D2 : Nat → Int) (e b : Int) : ∀ n : Nat, fnd D1 D2 e b n = 0 ∨ (258 ≤ fnd D1 D2 e b n ∧ fnd D1 D2 e b n < 258 + n)
  | 0 => Or.inl rfl
  | n + 1 => by
    have := fnd_R D1 D2 e b n
    unfold fnd
    split <;> omega
theorem lst_R (D1 : Nat → Int) (e : Int) : ∀ n : Nat, lst D1 e n = 0 ∨ (258 ≤ lst D1 e n ∧ lst D1 e n < 258 + n)
  | 0 => Or.inl rfl
  | n + 1 => by
    have := lst_R D1 e n
    unfold lst
    split <;> omega
theorem lst_0 {D1 D2 : Nat → Int} {e b : Int} : ∀ {n : Nat}, lst D1 e n = 0 → fnd D1 D2 e b n = 0
  | 0, _ => rfl
  | n + 1, h => by
    unfold lst at h
    unfold fnd
    split at h
    · omega
    · rename_i hz
      rw [if_neg fun z => hz z.1]
      exact lst_0 h
theorem lst_1 {D1 D2 : Nat → Int} {e b : Int} : ∀ {n : Nat}, lst D1 e n ≠ 0 → ∃ k : Nat, k < n ∧ lst D1 e n = 258 + k ∧ D1 k = e ∧ fnd D1 D2 e b n = if D2 k = b then 258 + (k : Int) else fnd D1 D2 e b k
  | 0, h => absurd rfl h
  | n + 1, h => by
    unfold lst at h ⊢
    split at h
    · rename_i hz
      rw [if_pos hz]
      refine ⟨n, by omega, rfl, hz, ?_⟩
      rw [fnd]
      by_cases hb : D2 n = b
      · rw [if_pos ⟨hz, hb⟩, if_pos hb]
      · rw [if_neg fun z => hb z.2, if_neg hb]
    · rename_i hz
      rw [if_neg hz]
      obtain ⟨k, h1, h2, h3, h4⟩ := lst_1 h
      refine ⟨k, by omega, h2, h3, ?_⟩
      rw [fnd, if_neg fun z => hz z.1]
      exact h4
theorem lst_du (D1 : Nat → Int) (e : Int) {m : Nat} (x : Int) : ∀ {n : Nat}, n ≤ m → lst (du D1 m x) e n = lst D1 e n
  | 0, _ => rfl
  | n + 1, h => by rw [lst, lst, lst_du D1 e x (by omega), du_n _ _ (by omega)]
/-- the class's table -/
def cT (h : fx_H) (N : Nat) (B : Nat → Int) (n : Nat) (D1 D2 : Nat → Int) (since : Int) : Prop := h.2.1 16 9 = 258 + n ∧ h.2.1 16 8 = since ∧ (∀ i : Nat, i < N → h.2.2.1 17 i = B i) ∧ (∀ k : Nat, k < n → h.2.2.1 20 (258 + k) = D2 k ∧ h.2.2.1 19 (258 + k) = lst D1 (D1 k) k) ∧ ∀ e : Nat, e < 658 → h.2.2.1 18 e = lst D1 e n
def dOK (n : Nat) (D1 D2 : Nat → Int) : Prop := ∀ k : Nat, k < n → 0 ≤ D1 k ∧ D1 k < 700 ∧ 0 ≤ D2 k ∧ D2 k < 256
theorem dOK.du {n : Nat} {D1 D2 : Nat → Int} {x b : Int} (d : dOK n D1 D2) (h1 : 0 ≤ x) (h2 : x < 700) (h3 : 0 ≤ b) (h4 : b < 256) : dOK (n + 1) (du D1 n x) (du D2 n b) := by
  intro k hk
  by_cases hkn : k = n
  · subst hkn; rw [du_s, du_s]; exact ⟨h1, h2, h3, h4⟩
  · rw [du_n _ _ hkn, du_n _ _ hkn]; exact d k (by omega)
section TA
variable {l : Launch} {Q : Option Value → fx_H → Prop} {h : fx_H} {a : Nat → Nat} {pp dd p : Nat} {g w t : Int} {f : Int → Int → Int} {N n : Nat} {B D1 D2 : Nat → Int} {since : Int}
theorem cT.cs {h h2 : fx_H} (c : cT h N B n D1 D2 since) (m : cs h h2) : cT h2 N B n D1 D2 since := by
  obtain ⟨c1, c2, c3, c4, c5⟩ := c
  refine ⟨by rw [m.1.2.1 16 9 (by omega)]; exact c1, by rw [m.1.2.1 16 8 (by omega)]; exact c2, fun i hi => by rw [m.1.2.2.1 17 i (by omega)]; exact c3 i hi, fun k hk => ?_, fun e he => by rw [m.1.2.2.1 18 e (by omega)]; exact c5 e he⟩
  rw [m.1.2.2.1 20 _ (by omega), m.1.2.2.1 19 _ (by omega)]
  exact c4 k hk
theorem cT.sin {h : fx_H} {x : Int} (c : cT h N B n D1 D2 since) : cT (fx_uF h 16 8 x) N B n D1 D2 x := by
  obtain ⟨c1, c2, c3, c4, c5⟩ := c
  exact ⟨by rw [uF_n _ _ (by omega)]; exact c1, uF_s _ _ _ _, c3, c4, c5⟩
theorem m_longerEntry {x b : Int} (hS : h.1 = fx_S0 a pp dd) (c : cT h N B n D1 D2 since) (d : dOK n D1 D2) (hn : n ≤ 400) (hx : 0 ≤ x) (hx2 : x < 658) (hb : 0 ≤ b) (hb2 : b < 256) (k : Q (some (.int (zI (fnd D1 D2 x b n)))) h) : fx_Mt l M_TA_longerEntry (0, 0) [.ref 16, .int (zI x), .int (zI b)] h Q := by
  obtain ⟨c1, c2, c3, c4, c5⟩ := c
  refine e_TA_longerEntry hS ⟨hx, hx2, ?_⟩
  rw [c5 x.toNat (by omega), Int.toNat_of_nonneg hx]
  have loop : ∀ (m j : Nat) (x4 : Int), j ≤ m → j ≤ n → 0 ≤ x4 → x4 + j ≤ n → fnd D1 D2 x b j = fnd D1 D2 x b n → fx_V l M_TA_longerEntry (0, 0) Q 0 0 10 [some (.ref 16), none, some (.int (zI b)), some (.int (zI (lst D1 x j))), some (.int (zI x4))] [] h := by
    intro m
    induction m with
    | zero =>
      intro j x4 hj hjn h0 hx4 hf
      have : j = 0 := by omega
      subst this
      rw [← hf] at k
      exact w_TA_longerEntry_10 hS ⟨by omega, fun z => by omega, fun _ => ⟨by simp only [lst]; omega, fun _ => k, fun z => absurd rfl z⟩⟩
    | succ m ih =>
      intro j x4 hj hjn h0 hx4 hf
      have hl := lst_R D1 x j
      by_cases hz : lst D1 x j = 0
      · rw [← hf, lst_0 hz] at k
        exact w_TA_longerEntry_10 hS ⟨by omega, fun z => by omega, fun _ => ⟨by omega, fun _ => k, fun z => absurd hz z⟩⟩
      · obtain ⟨i, i1, i2, i3, i4⟩ := lst_1 (D2 := D2) (b := b) hz
        have d9 := d i (by omega)
        have e : (lst D1 x j).toNat = 258 + i := by omega
        refine w_TA_longerEntry_10 hS ⟨by omega, fun z => by omega, fun _ => ⟨by omega, fun z => absurd z hz, fun _ => ⟨by omega, by omega, ?_⟩⟩⟩
        rw [e, (c4 i (by omega)).1, (c4 i (by omega)).2, i3]
        refine ⟨by omega, by omega, fun z => ⟨by omega, by omega, ?_⟩, fun z => ?_⟩
        · rw [if_neg z] at i4
          exact ih i (x4 + 1) (by omega) (by omega) (by omega) (by omega) (i4.symm.trans hf)
        · rw [if_pos z] at i4
          rw [← hf, i4] at k
          rw [i2]
          exact k
  exact loop n n 0 (Nat.le_refl _) (Nat.le_refl _) (by omega) (by omega) rfl
theorem m_makeEntry {x b : Int} (hS : h.1 = fx_S0 a pp dd) (c : cT h N B n D1 D2 since) (hn : n < 400) (hx : 0 ≤ x) (hx2 : x < 658) (k : ∀ h2, sm (fun j => 16 ≤ j ∧ j ≤ 20) h h2 → cT h2 N B (n + 1) (du D1 n x) (du D2 n b) since → Q none h2) : fx_Mt l M_TA_makeEntry (0, 0) [.ref 16, .int (zI x), .int (zI b)] h Q := by
  obtain ⟨c1, c2, c3, c4, c5⟩ := id c
  have e : (h.2.1 16 9).toNat = 258 + n := by omega
  refine e_TA_makeEntry hS ⟨by omega, fun z => by omega, fun _ => ⟨by omega, by omega, by omega, by omega, by omega, by omega, by omega, by omega, k _ ?_ ?_⟩⟩
  · exact (((sm.uA (by omega)).tr (sm.uA (by omega))).tr (sm.uA (by omega))).tr (sm.uF (by omega))
  · rw [e]
    refine ⟨?_, ?_, fun i hi => ?_, fun j hj => ⟨?_, ?_⟩, fun j hj => ?_⟩
    · rw [uF_s, c1]; omega
    · rw [uF_n _ _ (by omega)]; exact c2
    · show (fx_uA (fx_uA (fx_uA h 20 (258 + n) b) 19 (258 + n) (h.2.2.1 18 x.toNat)) 18 x.toNat (h.2.1 16 9)).2.2.1 17 i = _
      rw [uA_n _ _ (by omega), uA_n _ _ (by omega), uA_n _ _ (by omega)]
      exact c3 i hi
    · show (fx_uA (fx_uA (fx_uA h 20 (258 + n) b) 19 (258 + n) (h.2.2.1 18 x.toNat)) 18 x.toNat (h.2.1 16 9)).2.2.1 20 (258 + j) = _
      rw [uA_n _ _ (by omega), uA_n _ _ (by omega)]
      by_cases hjn : j = n
      · subst hjn; rw [uA_s, du_s]
      · rw [uA_n _ _ (by omega), du_n _ _ hjn]; exact (c4 j (by omega)).1
    · show (fx_uA (fx_uA (fx_uA h 20 (258 + n) b) 19 (258 + n) (h.2.2.1 18 x.toNat)) 18 x.toNat (h.2.1 16 9)).2.2.1 19 (258 + j) = _
      rw [uA_n _ _ (by omega)]
      by_cases hjn : j = n
      · subst hjn; rw [uA_s, du_s, lst_du _ _ _ (Nat.le_refl _), c5 x.toNat (by omega), Int.toNat_of_nonneg hx]
      · rw [uA_n _ _ (by omega), uA_n _ _ (by omega), du_n _ _ hjn, lst_du _ _ _ (by omega)]; exact (c4 j (by omega)).2
    · show (fx_uA (fx_uA (fx_uA h 20 (258 + n) b) 19 (258 + n) (h.2.2.1 18 x.toNat)) 18 x.toNat (h.2.1 16 9)).2.2.1 18 j = _
      rw [lst, du_s, lst_du _ _ _ (Nat.le_refl _)]
      by_cases hjx : j = x.toNat
      · rw [if_pos (by omega), hjx, uA_s, c1]
      · rw [if_neg (by omega), uA_n _ _ (by omega), uA_n _ _ (by omega), uA_n _ _ (by omega)]; exact c5 j hj
theorem m_bitsOfCode {x : Int} (hS : h.1 = fx_S0 a pp dd) (hx : zR x) (k : Q (some (.int (zI (dg x)))) h) : fx_Mt l M_TA_bitsOfCode (0, 0) [.int (zI x)] h Q := by
  unfold dg at k
  refine e_TA_bitsOfCode hS ⟨hx, fun z => ⟨fun z2 => ?_, fun z2 => ?_⟩, fun z => ?_⟩
  · rw [if_pos z, if_pos z2] at k; exact k
  · rw [if_pos z, if_neg z2] at k; exact k
  · rw [if_neg z] at k; exact k
theorem m_packCode {x : Int} {s : WS} (hS : h.1 = fx_S0 a pp dd) (hsi : h.2.1 16 8 = since) (hs0 : 0 ≤ since) (hs1 : since < 1000) (cw : cW h s) (ok : isW s) (hx : zR x) (cap : tb s + 11 ≤ 16000) (k : ∀ h2, cs (fx_uF h 16 8 (since + 1)) h2 → cW h2 (wbits s x (dg (since + 1)).toNat) → Q none h2) : fx_Mt l M_TA_packCode (0, 0) [.ref 16, .int (zI x)] h Q := by
  subst hsi
  have := dg_R (h.2.1 16 8 + 1)
  refine e_TA_packCode hS (m_bitsOfCode (h := fx_uF h 16 8 _) hS (by omega) ⟨_, rfl, rfl, ?_⟩)
  exact m_appendBits (h := fx_uF h 16 8 _) hS (cw.uF (by omega)) ok hx (by omega) (by omega) (by omega) fun h2 c2 w2 => ⟨rfl, c2.1.1, k h2 c2 w2⟩
theorem m_collect {x y : Int} (hS : h.1 = fx_S0 a pp dd) (c : cP h p g w t f) (hx : 0 ≤ x) (hn : x + n = y) (hy : y ≤ t) (cap : n * (rbn g w).toNat ≤ 400) (k : ∀ h2, sm (fun j => j = 17) h h2 → h2.2.1 = h.2.1 → (∀ i : Nat, i < n * (rbn g w).toNat → h2.2.2.1 17 i = (sb g w f x n).getD i 0) → Q (some (.int (zI ((n * (rbn g w).toNat : Nat) : Int)))) h2) : fx_Mt l M_TA_collect (0, 0) [.ref 16, .ref p, .int (zI x), .int (zI y)] h Q := by
  obtain ⟨⟨a1, h1⟩, ⟨a2, h2⟩, -⟩ := id c.1
  have hrb := c.2.2.2.2.2.2.2.rb
  have hp27 : 27 ≤ p := c.2.2.1
  have ht4 : t ≤ 24 := c.2.2.2.2.2.2.2.2.2.2.2.1
  refine e_TA_collect hS h1 h2 ?_
  have rows : ∀ (m i : Nat) (h3 : fx_H), i + m = n → sm (fun j => j = 17) h h3 → h3.2.1 = h.2.1 → (∀ j : Nat, j < i * (rbn g w).toNat → h3.2.2.1 17 j = (sb g w f x n).getD j 0) →
      fx_V l M_TA_collect (0, 0) Q 0 0 6 [some (.ref 16), some (.ref p), none, some (.int (zI y)), some (.int (zI ((i * (rbn g w).toNat : Nat) : Int))), some (.int (zI (x + (i : Nat)))), none] [] h3 := by
    intro m
    induction m with
    | zero =>
      intro i h3 hi s3 f3 b3
      have hin : i = n := by omega
      refine w_TA_collect_6 (s3.1.trans hS) (by rw [s3.1]; exact h1) (by rw [s3.1]; exact h2) ⟨by omega, by omega, fun _ => ?_, fun z => by omega⟩
      rw [hin] at b3 ⊢
      exact k h3 s3 f3 b3
    | succ m ih =>
      intro i h3 hi s3 f3 b3
      have hle : (i + 1) * (rbn g w).toNat ≤ n * (rbn g w).toNat := Nat.mul_le_mul_right _ (by omega)
      have hsm : (i + 1) * (rbn g w).toNat = i * (rbn g w).toNat + (rbn g w).toNat := Nat.succ_mul _ _
      refine w_TA_collect_6 (s3.1.trans hS) (by rw [s3.1]; exact h1) (by rw [s3.1]; exact h2) ⟨by omega, by omega, fun z => by omega, fun _ => ?_⟩
      have bytes : ∀ (j2 j : Nat) (h4 : fx_H), j + j2 = (rbn g w).toNat → sm (fun j => j = 17) h h4 → h4.2.1 = h.2.1 → (∀ q : Nat, q < i * (rbn g w).toNat + j → h4.2.2.1 17 q = (sb g w f x n).getD q 0) →
          fx_V l M_TA_collect (0, 0) Q 0 0 15 [some (.ref 16), some (.ref p), none, some (.int (zI y)), some (.int (zI ((i * (rbn g w).toNat + j : Nat) : Int))), some (.int (zI (x + (i : Nat)))), some (.int (zI (j : Nat)))] [] h4 := by
        intro j2
        induction j2 with
        | zero =>
          intro j h4 hj s4 f4 b4
          refine w_TA_collect_15 (s4.1.trans hS) (by rw [s4.1]; exact h1) (by rw [s4.1]; exact h2) (m_rowBytesP (c.sm s4 (by omega) (by omega)) ⟨_, rfl, rfl, by omega, by omega, fun _ => ?_, fun z => by omega⟩)
          have e1 : i * (rbn g w).toNat + j = (i + 1) * (rbn g w).toNat := by omega
          have e2 : x + ((i : Nat) : Int) + 1 = x + ((i + 1 : Nat) : Int) := by omega
          rw [e1, e2]
          exact ih (i + 1) h4 (by omega) s4 f4 (by rw [← e1]; exact b4)
        | succ j2 ihj =>
          intro j h4 hj s4 f4 b4
          have c4 := c.sm s4 (by omega) (by omega)
          refine w_TA_collect_15 (s4.1.trans hS) (by rw [s4.1]; exact h1) (by rw [s4.1]; exact h2) (m_rowBytesP c4 ⟨_, rfl, rfl, by omega, by omega, fun z => by omega, fun _ => ⟨by omega, fun z => by omega, fun _ => ?_⟩⟩)
          refine m_rowByteP c4 (by omega) (by omega) (by omega) ⟨_, rfl, rfl, by omega, by omega, ?_⟩
          have e1 : (((i * (rbn g w).toNat + j : Nat) : Int) + 1) = ((i * (rbn g w).toNat + (j + 1) : Nat) : Int) := by omega
          have e2 : ((j : Nat) : Int) + 1 = ((j + 1 : Nat) : Int) := by omega
          rw [e1, e2, Int.toNat_natCast]
          refine ihj (j + 1) _ (by omega) (s4.tr (sm.uA rfl)) f4 fun q hq => ?_
          by_cases hq2 : q = i * (rbn g w).toNat + j
          · subst hq2
            rw [uA_s, sb_get g w f n x i j (by omega) (by omega)]
          · rw [uA_n _ _ (by omega)]; exact b4 q (by omega)
      exact bytes _ 0 h3 (Nat.zero_add _) s3 f3 b3
  have := rows n 0 h (Nat.zero_add _) sm.rf rfl fun j hj => by omega
  simpa using this
theorem m_TApack {x y : Int} {s : WS} (hS : h.1 = fx_S0 a pp dd) (c : cP h p g w t f) (cw : cW h s) (ok : isW s) (hx : 0 ≤ x) (hn0 : 1 ≤ n) (hn : x + n = y) (hy : y ≤ t) (hN : n * (rbn g w).toNat ≤ 400) (cap : tb s + 9 + 11 * (n * (rbn g w).toNat + 2) ≤ 16000) (k : ∀ h2, ck h h2 → cW h2 (tabW (fun i => (sb g w f x n).getD i 0) (n * (rbn g w).toNat) s) → Q none h2) : fx_Mt l M_TA_pack (0, 0) [.ref 16, .ref p, .int (zI x), .int (zI y)] h Q := by
  obtain ⟨⟨a1, h1⟩, ⟨a2, h2⟩, -⟩ := id c.1
  have hrb := c.2.2.2.2.2.2.2.rb
  have hby := c.2.2.2.2.2.2.2.byte
  have hN1 : 1 ≤ n * (rbn g w).toNat := Nat.mul_pos (by omega) (by omega)
  refine e_TA_pack hS h1 h2 (m_collect hS c hx hn hy hN fun h3 s3 f3 b3 => ⟨_, rfl, s3.1, ?_⟩)
  refine m_fill658 (a := a 18) (by rw [s3.1, hS]; rfl) fun h4 s4 f4 b4 => ⟨rfl, s4.1, ?_⟩
  refine m_bitsOfCode (h := fx_uF (fx_uF h4 16 9 258) 16 8 0) (s4.1.trans (s3.1.trans hS)) (by omega) ⟨_, rfl, rfl, ?_⟩
  have k4 : ck h (fx_uF (fx_uF h4 16 9 258) 16 8 0) := ⟨((s3.mono fun q z => by omega).tr (s4.mono fun q z => by omega)).tr ((sm.uF (by omega)).tr (sm.uF (by omega))), by rw [uF_n _ _ (by omega), uF_n _ _ (by omega), f4, f3]⟩
  have w4 : cW (fx_uF (fx_uF h4 16 9 258) 16 8 0) s := (((cw.sm s3 (by omega) (by omega)).sm s4 (by omega) (by omega)).uF (by omega)).uF (by omega)
  refine m_appendBits (h := fx_uF (fx_uF h4 16 9 258) 16 8 0) (s4.1.trans (s3.1.trans hS)) w4 ok (by omega) (by decide) (by decide) (by rw [show dg 0 = 9 from rfl]; omega) fun h5 c5 w5 => ⟨rfl, c5.1.1, ?_⟩
  have hBr : ∀ i : Nat, 0 ≤ (sb g w f x n).getD i 0 ∧ (sb g w f x n).getD i 0 < 256 := by
    intro i
    by_cases hi : i < n * (rbn g w).toNat
    · have hq : i / (rbn g w).toNat < n := Nat.div_lt_of_lt_mul (by rw [Nat.mul_comm]; exact hi)
      have hm := Nat.mod_lt i (show (rbn g w).toNat > 0 by omega)
      have := sb_get g w f n x (i / (rbn g w).toNat) (i % (rbn g w).toNat) hq hm
      rw [Nat.mul_comm, Nat.div_add_mod] at this
      rw [this]
      exact hby _ _
    · rw [List.getD_eq_getElem?_getD, List.getElem?_eq_none (by rw [sb_len]; omega)]
      decide
  have t5 : cT h5 (n * (rbn g w).toNat) (fun i => (sb g w f x n).getD i 0) 0 (fun _ => 0) (fun _ => 0) 0 := by
    refine cT.cs ?_ c5
    refine ⟨?_, uF_s _ _ _ _, fun i hi => ?_, fun j hj => by omega, fun e he => ?_⟩
    · rw [uF_n _ _ (by omega), uF_s]; rfl
    · show h4.2.2.1 17 i = _; rw [s4.2.2.1 17 i (by omega)]; exact b3 i hi
    · show h4.2.2.1 18 e = _; rw [b4 e he]; rfl
  have h170 : h5.2.2.1 17 0 = (sb g w f x n).getD 0 0 := t5.2.2.1 0 (by omega)
  rw [h170]
  have k5 : ck h h5 := k4.tr c5.ck
  have loop : ∀ (m i n2 : Nat) (D1 D2 : Nat → Int) (e since : Int) (s6 : WS) (h6 : fx_H), i + m = n * (rbn g w).toNat → n2 < i → 0 ≤ since → since < i → 0 ≤ e → e < 658 → dOK n2 D1 D2 → isW s6 → tb s6 + 11 * (m + 2) ≤ 16000 → ck h h6 → cW h6 s6 → cT h6 (n * (rbn g w).toNat) (fun i => (sb g w f x n).getD i 0) n2 D1 D2 since →
      (∀ h2, ck h h2 → cW h2 (wrest (tabE (fun i => (sb g w f x n).getD i 0) m i n2 D1 D2 e since s6)) → Q none h2) →
      fx_V l M_TA_pack (0, 0) Q 0 0 54 [some (.ref 16), none, none, none, some (.int (zI ((n * (rbn g w).toNat : Nat) : Int))), some (.int (zI e)), some (.int (zI (i : Nat))), none] [] h6 := by
    intro m
    induction m with
    | zero =>
      intro i n2 D1 D2 e since s6 h6 hi hn2 hs0 hs1 he he2 d ok6 cap6 k6 w6 t6 kk
      have hS6 := k6.1.1.trans hS
      have d1 := dg_R (since + 1)
      have d2 := dg_R (since + 1 + 1)
      refine w_TA_pack_54 hS6 (by rw [k6.1.1]; exact h1) (by rw [k6.1.1]; exact h2) ⟨by omega, by omega, fun _ => ?_, fun z => by omega⟩
      refine m_packCode hS6 t6.2.1 hs0 (by omega) w6 ok6 (by omega) (by omega) fun h7 c7 w7 => ⟨rfl, c7.1.1, ?_⟩
      have k7 : ck h h7 := (k6.tr (ck.uF (by omega))).tr c7.ck
      refine m_packCode (k7.1.1.trans hS) (since := since + 1) (by rw [c7.1.2.1 16 8 (by omega), uF_s]) (by omega) (by omega) w7 (isW_bits _ ok6) (by omega) (by rw [tb_bits _ ok6]; omega) fun h8 c8 w8 => ⟨rfl, c8.1.1, ?_⟩
      have k8 : ck h h8 := (k7.tr (ck.uF (by omega))).tr c8.ck
      exact m_endBits (k8.1.1.trans hS) w8 fun h9 c9 w9 => ⟨rfl, c9.1.1, kk h9 (k8.tr c9.ck) w9⟩
    | succ m ih =>
      intro i n2 D1 D2 e since s6 h6 hi hn2 hs0 hs1 he he2 d ok6 cap6 k6 w6 t6 kk
      have hS6 := k6.1.1.trans hS
      have d1 := dg_R (since + 1)
      have hb := hBr i
      have hb6 : h6.2.2.1 17 i = (sb g w f x n).getD i 0 := t6.2.2.1 i (by omega)
      have e9 : ((i : Nat) : Int) + 1 = ((i + 1 : Nat) : Int) := by omega
      have hfr := fnd_R D1 D2 e ((sb g w f x n).getD i 0) n2
      refine w_TA_pack_54 hS6 (by rw [k6.1.1]; exact h1) (by rw [k6.1.1]; exact h2) ⟨by omega, by omega, fun z => by omega, fun _ => ⟨by omega, by omega, ?_⟩⟩
      rw [Int.toNat_natCast, hb6]
      refine m_longerEntry hS6 t6 d (by omega) he he2 hb.1 hb.2 ⟨_, rfl, rfl, by omega, fun z => ?_, fun z => ?_⟩
      · rw [tabE, if_neg z] at kk
        rw [e9]
        exact ih (i + 1) n2 D1 D2 _ since s6 h6 (by omega) (by omega) hs0 (by omega) (by omega) (by omega) d ok6 (by omega) k6 w6 t6 kk
      · rw [tabE, if_pos z] at kk
        refine m_packCode hS6 t6.2.1 hs0 (by omega) w6 ok6 (by omega) (by omega) fun h7 c7 w7 => ⟨rfl, c7.1.1, by omega, by omega, ?_⟩
        have k7 : ck h h7 := (k6.tr (ck.uF (by omega))).tr c7.ck
        have t7 : cT h7 (n * (rbn g w).toNat) (fun i => (sb g w f x n).getD i 0) n2 D1 D2 (since + 1) := t6.sin.cs c7
        have hb7 : h7.2.2.1 17 i = (sb g w f x n).getD i 0 := t7.2.2.1 i (by omega)
        rw [hb7]
        refine m_makeEntry (k7.1.1.trans hS) t7 (by omega) he he2 fun h8 s8 t8 => ⟨rfl, s8.1, by omega, by omega, ?_⟩
        have hb8 : h8.2.2.1 17 i = (sb g w f x n).getD i 0 := t8.2.2.1 i (by omega)
        have k8 : ck h h8 := k7.tr ⟨s8.mono fun q z => by omega, s8.2.1 1 2 (by omega)⟩
        rw [hb8, e9]
        exact ih (i + 1) (n2 + 1) _ _ _ (since + 1) _ h8 (by omega) (by omega) (by omega) (by omega) hb.1 (by omega) (d.du he (by omega) hb.1 hb.2) (isW_bits _ ok6) (by rw [tb_bits _ ok6]; omega) k8 (w7.sm s8 (by omega) (by omega)) t8 kk
  refine loop (n * (rbn g w).toNat - 1) 1 0 _ _ _ 0 (wbits s 256 9) h5 (by omega) (by omega) (by omega) (by omega) (hBr 0).1 (by have := (hBr 0).2; omega) (fun k hk => by omega) (isW_bits _ ok) (by rw [tb_bits _ ok]; omega) k5 w5 t5 fun h2 c2 w2 => k h2 c2 ?_
  exact w2
end TA
