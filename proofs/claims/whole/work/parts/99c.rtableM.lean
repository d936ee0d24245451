/-! strips TABLE: the reference's reading -/
def strE (E : List (List Int)) (c : Int) : List Int := if c < 256 then [c] else E.getD (c - 258).toNat []
def vcO (n : Nat) (c : Int) : Prop := (0 ≤ c ∧ c < 256) ∨ (258 ≤ c ∧ c < 258 + n)
def chO (E : List (List Int)) (D1 D2 : Nat → Int) : Prop := ∀ j : Nat, j < E.length → vcO j (D1 j) ∧ 0 ≤ D2 j ∧ D2 j < 256 ∧ E.getD j [] = strE E (D1 j) ++ [D2 j]
theorem strE_lo (E : List (List Int)) {c : Int} (h : c < 256) : strE E c = [c] := if_pos h
theorem strE_hi (E : List (List Int)) (j : Nat) : strE E (258 + j) = E.getD j [] := by
  unfold strE
  rw [if_neg (by omega), show ((258 : Int) + (j : Int) - 258).toNat = j by omega]
theorem strE_app {E X : List (List Int)} {c : Int} (h : vcO E.length c) : strE (E ++ X) c = strE E c := by
  rcases h with h | h
  · rw [strE_lo _ h.2, strE_lo _ h.2]
  · obtain ⟨j, rfl⟩ : ∃ j : Nat, c = 258 + j := ⟨(c - 258).toNat, by omega⟩
    rw [strE_hi, strE_hi, getE_l (by omega)]
theorem vcO.mono {n m : Nat} {c : Int} (h : vcO n c) (hn : n ≤ m) : vcO m c := by unfold vcO at *; omega
theorem chO.pos {E : List (List Int)} {D1 D2 : Nat → Int} (ch : chO E D1 D2) {c : Int} (h : vcO E.length c) : 0 < (strE E c).length := by
  rcases h with h | h
  · rw [strE_lo _ h.2]; simp
  · obtain ⟨j, rfl⟩ : ∃ j : Nat, c = 258 + j := ⟨(c - 258).toNat, by omega⟩
    rw [strE_hi, (ch j (by omega)).2.2.2, List.length_append, List.length_singleton]; omega
theorem chO.isB {E : List (List Int)} {D1 D2 : Nat → Int} (ch : chO E D1 D2) : ∀ (m : Nat) (c : Int), c.toNat ≤ m → vcO E.length c → isB (strE E c)
  | m, c, hm, h => by
    rcases h with h | h
    · rw [strE_lo _ h.2]; exact isB_one ⟨h.1, h.2⟩
    · obtain ⟨j, rfl⟩ : ∃ j : Nat, c = 258 + j := ⟨(c - 258).toNat, by omega⟩
      obtain ⟨g1, g2, g3, g4⟩ := ch j (by omega)
      rw [strE_hi, g4]
      match m with
      | 0 => omega
      | m + 1 =>
        exact (chO.isB ch m (D1 j) (by unfold vcO at g1; omega) (g1.mono (by omega))).app (isB_one ⟨g2, g3⟩)
theorem chO.app {E : List (List Int)} {D1 D2 : Nat → Int} {x u : Int} (ch : chO E D1 D2) (hx : vcO E.length x) (hu : 0 ≤ u ∧ u < 256) : chO (E ++ [strE E x ++ [u]]) (du D1 E.length x) (du D2 E.length u) := by
  intro j hj
  rw [List.length_append, List.length_singleton] at hj
  by_cases e : j = E.length
  · subst e
    rw [du_s, du_s, getE_r, strE_app hx]
    exact ⟨hx, hu.1, hu.2, rfl⟩
  · obtain ⟨g1, g2, g3, g4⟩ := ch j (by omega)
    rw [du_n _ _ e, du_n _ _ e, getE_l (by omega), strE_app (g1.mono (by omega))]
    exact ⟨g1, g2, g3, g4⟩
section TM
variable {l : Launch} {Q : Option Value → fx_H → Prop} {h : fx_H} {a : Nat → Nat} {pp dd : Nat} {L : List Int} {p e z : Int} {T : Nat} {B : List Int} {E : List (List Int)} {D1 D2 : Nat → Int}
theorem m_firstOf {c : Int} (hS : h.1 = fx_S0 a pp dd) (mt : mT h E.length D1 D2) (ch : chO E D1 D2) (hE : E.length ≤ 440) (hc : vcO E.length c) (k : Q (some (.int (zI ((strE E c).getD 0 0)))) h) : fx_Mt l M_MO_firstOf (0, 0) [.ref 31, .int (zI c)] h Q := by
  refine e_MO_firstOf hS ?_
  have loop : ∀ (m : Nat) (c : Int), c.toNat ≤ m → vcO E.length c → Q (some (.int (zI ((strE E c).getD 0 0)))) h → fx_V l M_MO_firstOf (0, 0) Q 0 0 2 [some (.ref 31), none, some (.int (zI c))] [] h := by
    intro m
    induction m with
    | zero =>
      intro c hm hc kq
      unfold vcO at hc
      rw [strE_lo _ (by omega)] at kq
      exact w_MO_firstOf_2 hS ⟨by omega, fun _ => kq, fun u => by omega⟩
    | succ m ih =>
      intro c hm hc kq
      have hc' := hc
      unfold vcO at hc
      refine w_MO_firstOf_2 hS ⟨by omega, fun u => ?_, fun u => ⟨by omega, by omega, ?_⟩⟩
      · rw [strE_lo _ (by omega)] at kq; exact kq
      · obtain ⟨j, rfl⟩ : ∃ j : Nat, c = 258 + j := ⟨(c - 258).toNat, by omega⟩
        obtain ⟨g1, g2, g3, g4⟩ := ch j (by omega)
        have g1' := g1.mono (show j ≤ E.length by omega)
        rw [strE_hi, g4, getD_l (ch.pos g1')] at kq
        rw [show ((258 : Int) + (j : Int)).toNat = 258 + j by omega, (mt.2 j (by omega)).1]
        unfold vcO at g1
        exact ih (D1 j) (by omega) g1' kq
  exact loop c.toNat c (Nat.le_refl _) hc k
theorem mT.mo {PA PF : Nat → Prop} {h h2 : fx_H} {n : Nat} (c : mT h n D1 D2) (m : mo PA PF h h2) (h1 : ¬ PA 39) (h3 : ¬ PA 40) (h4 : ¬ PF 28) : mT h2 n D1 D2 := ⟨(m.2 28 h4).trans c.1, fun k hk => by rw [m.1.2.2.1 39 _ (by rintro (q | q); omega; exact h1 q), m.1.2.2.1 40 _ (by rintro (q | q); omega; exact h3 q)]; exact c.2 k hk⟩
abbrev wS : Nat → Prop := fun j => j = 38
abbrev wSF : Nat → Prop := fun k => k = 20 ∨ k = 22 ∨ k = 27
theorem m_storeEntry {c : Int} (hS : h.1 = fx_S0 a pp dd) (mt : mT h E.length D1 D2) (ch : chO E D1 D2) (hE : E.length ≤ 440) (hc : vcO E.length c) (cb : mB h L p e z) (ms : mS h B) (hT : T ≤ 400) (hBT : B.length ≤ 400) (hsl : (strE E c).length ≤ 1000) (k : ∀ h2 z2, mo wS wSF h h2 → mB h2 L p e z2 → (z2 = 0 ↔ z = 0 ∧ B.length + (strE E c).length ≤ T) → (B.length + (strE E c).length ≤ T → mS h2 (B ++ strE E c)) → (¬ B.length + (strE E c).length ≤ T → mS h2 B) → Q none h2) : fx_Mt l M_MO_storeEntry (0, 0) [.ref 31, .int (zI c), .int (zI (T : Nat))] h Q := by
  refine e_MO_storeEntry hS ?_
  -- the bytes, from behind
  have back : ∀ (m : Nat) (x4 : Int) (x5 : Int) (h2 : fx_H), x5 + 1 = m → (0 < m → vcO E.length x4 ∧ strE E x4 = (strE E c).take m) → m ≤ (strE E c).length → B.length + (strE E c).length ≤ T → mo wS wSF h h2 → mB h2 L p e z → h2.2.1 31 27 = B.length → (∀ i : Nat, i < B.length → h2.2.2.1 38 i = B.getD i 0) → (∀ i : Nat, m ≤ i → i < (strE E c).length → h2.2.2.1 38 (B.length + i) = (strE E c).getD i 0) → fx_V l M_MO_storeEntry (0, 0) Q 0 0 59 [some (.ref 31), none, none, some (.int (zI ((strE E c).length : Nat))), some (.int (zI x4)), some (.int (zI x5))] [] h2 := by
    intro m
    induction m with
    | zero =>
      intro x4 x5 h2 h5 _ _ hcap m2 c2 f27 a2 b2
      refine w_MO_storeEntry_59 (m2.S.trans hS) ⟨by omega, fun _ => ?_, fun u => by omega⟩
      rw [f27]
      have mu : mo wS wSF h2 (fx_uF h2 31 27 ((B.length : Int) + ((strE E c).length : Int))) := mo.uF (Or.inr (Or.inr rfl))
      have mu2 : mo wS (fun k => k = 27) h2 (fx_uF h2 31 27 ((B.length : Int) + ((strE E c).length : Int))) := mo.uF rfl
      refine k _ z (m2.tr mu) (c2.mo mu2 (by omega) (by omega) (by omega) (by omega)) ⟨fun u => ⟨u, hcap⟩, fun u => u.1⟩ (fun _ => ⟨by rw [uF_s, List.length_append]; omega, fun i hi => ?_⟩) (fun u => absurd hcap u)
      rw [List.length_append] at hi
      show h2.2.2.1 38 i = _
      by_cases hi2 : i < B.length
      · rw [getD_l hi2]; exact a2 i hi2
      · obtain ⟨j, rfl⟩ : ∃ j, i = B.length + j := ⟨i - B.length, by omega⟩
        rw [getD_r]; exact b2 j (by omega) (by omega)
    | succ m ih =>
      intro x4 x5 h2 h5 hx hm hcap m2 c2 f27 a2 b2
      obtain ⟨hv, hs⟩ := hx (by omega)
      have hlen : (strE E x4).length = m + 1 := by rw [hs, List.length_take]; omega
      have hm5 : x5 = m := by omega
      subst hm5
      have eI : ((B.length : Int) + (m : Int)).toNat = B.length + m := by omega
      have e1 : (m : Int) + (-1) = (m : Int) - 1 := by omega
      have nx : ∀ (x9 u : Int), u = (strE E c).getD m 0 → (0 < m → vcO E.length x9 ∧ strE E x9 = (strE E c).take m) → fx_V l M_MO_storeEntry (0, 0) Q 0 0 59 [some (.ref 31), none, none, some (.int (zI ((strE E c).length : Nat))), some (.int (zI x9)), some (.int (zI ((m : Int) + (-1))))] [] (fx_uA h2 38 ((B.length : Int) + (m : Int)).toNat u) := by
        intro x9 u hu hx9
        rw [eI]
        have mu : mo wS wSF h2 (fx_uA h2 38 (B.length + m) u) := mo.uA rfl
        have mu2 : mo wS (fun k => k < 0) h2 (fx_uA h2 38 (B.length + m) u) := mo.uA rfl
        refine ih x9 _ _ (by omega) hx9 (by omega) hcap (m2.tr mu) (c2.mo mu2 (by omega) (by omega) (by omega) (by omega)) f27 (fun i hi => ?_) (fun i hi hi2 => ?_)
        · rw [uA_n _ _ (by omega)]; exact a2 i hi
        · by_cases hii : i = m
          · subst hii; rw [uA_s]; exact hu
          · rw [uA_n _ _ (by omega)]; exact b2 i (by omega) hi2
      have hvv := hv
      unfold vcO at hvv
      refine w_MO_storeEntry_59 (m2.S.trans hS) ⟨by omega, fun u => by omega, fun _ => ⟨by omega, fun u => ?_, fun u => ?_⟩⟩
      · rw [f27]
        rw [strE_lo _ (by omega)] at hlen hs
        simp at hlen
        have hm0 : m = 0 := by omega
        subst hm0
        refine ⟨by omega, by omega, fun _ => nx 0 x4 ?_ (fun u9 => by omega), fun u2 => absurd u u2⟩
        have := congrArg (fun l => l.getD 0 0) hs
        simp only [List.getD_cons_zero] at this
        rw [this, List.getD_eq_getElem?_getD, List.getD_eq_getElem?_getD, List.getElem?_take]
        simp
      · obtain ⟨j, rfl⟩ : ∃ j : Nat, x4 = 258 + j := ⟨(x4 - 258).toNat, by omega⟩
        obtain ⟨g1, g2, g3, g4⟩ := ch j (by omega)
        have m39 := (mt.mo m2 (by omega) (by omega) (by omega)).2 j (by omega)
        rw [strE_hi, g4] at hs hlen
        rw [List.length_append, List.length_singleton] at hlen
        rw [show ((258 : Int) + (j : Int)).toNat = 258 + j by omega, m39.1, m39.2, f27]
        refine ⟨by omega, by omega, by omega, by omega, fun u2 => absurd u2 u, fun _ => ⟨by omega, by omega, nx (D1 j) (D2 j) ?_ (fun _ => ⟨g1.mono (by omega), ?_⟩)⟩⟩
        · have := congrArg (fun l => l.getD m 0) hs
          rw [show m = (strE E (D1 j)).length + 0 by omega, getD_r] at this
          rw [show (strE E (D1 j)).length + 0 = m by omega] at this
          have e9 : ([D2 j] : List Int).getD 0 0 = D2 j := rfl
          rw [e9] at this
          rw [this, List.getD_eq_getElem?_getD, List.getD_eq_getElem?_getD, List.getElem?_take, if_pos (by omega)]
        · have := congrArg (fun l => l.take m) hs
          rw [List.take_append_of_le_length (by omega), List.take_of_length_le (by omega), List.take_take, Nat.min_eq_left (by omega)] at this
          exact this
  have count : ∀ (m : Nat) (x4 x3 : Int), x4.toNat ≤ m → vcO E.length x4 → x3 + (strE E x4).length = 1 + (strE E c).length → 1 ≤ x3 → fx_V l M_MO_storeEntry (0, 0) Q 0 0 5 [some (.ref 31), some (.int (zI c)), some (.int (zI (T : Nat))), some (.int (zI x3)), some (.int (zI x4)), none] [] h := by
    intro m
    induction m with
    | zero =>
      intro x4 x3 hm hv h3 h31
      unfold vcO at hv
      rw [strE_lo _ (by omega)] at h3
      simp only [List.length_singleton] at h3
      have e3 : x3 = (((strE E c).length : Nat) : Int) := by omega
      refine w_MO_storeEntry_5 hS ⟨by omega, fun _ => ?_, fun u => by omega⟩
      rw [ms.1]
      refine ⟨by omega, by omega, fun u => m_needF hS cb fun h2 m2 c2 => ⟨_, rfl, m2.S, by omega, fun u2 => absurd rfl u2, fun _ => k h2 1 (m2.mono (fun j q => by omega) (fun k q => by omega)) c2 (by omega) (fun u2 => by omega) (fun _ => ms.mo m2 (by omega) (by omega))⟩, fun u => m_needT hS cb fun h2 m2 c2 => ⟨_, rfl, m2.S, by omega, fun _ => ?_, fun u2 => by omega⟩⟩
      rw [e3]
      have ms2 := ms.mo m2 (by omega) (by omega)
      exact back (strE E c).length c _ h2 (by omega) (fun _ => ⟨hc, (List.take_length).symm⟩) (Nat.le_refl _) (by omega) (m2.mono (fun j q => by omega) (fun k q => by omega)) c2 ms2.1 ms2.2 (fun i h1 h9 => by omega)
    | succ m ih =>
      intro x4 x3 hm hv h3 h31
      have hv' := hv
      unfold vcO at hv
      refine w_MO_storeEntry_5 hS ⟨by omega, fun u => ?_, fun u => ⟨by omega, by omega, ?_⟩⟩
      · rw [strE_lo _ (by omega)] at h3
        simp only [List.length_singleton] at h3
        have e3 : x3 = (((strE E c).length : Nat) : Int) := by omega
        rw [ms.1]
        refine ⟨by omega, by omega, fun u => m_needF hS cb fun h2 m2 c2 => ⟨_, rfl, m2.S, by omega, fun u2 => absurd rfl u2, fun _ => k h2 1 (m2.mono (fun j q => by omega) (fun k q => by omega)) c2 (by omega) (fun u2 => by omega) (fun _ => ms.mo m2 (by omega) (by omega))⟩, fun u => m_needT hS cb fun h2 m2 c2 => ⟨_, rfl, m2.S, by omega, fun _ => ?_, fun u2 => by omega⟩⟩
        rw [e3]
        have ms2 := ms.mo m2 (by omega) (by omega)
        exact back (strE E c).length c _ h2 (by omega) (fun _ => ⟨hc, (List.take_length).symm⟩) (Nat.le_refl _) (by omega) (m2.mono (fun j q => by omega) (fun k q => by omega)) c2 ms2.1 ms2.2 (fun i h1 h9 => by omega)
      · obtain ⟨j, rfl⟩ : ∃ j : Nat, x4 = 258 + j := ⟨(x4 - 258).toNat, by omega⟩
        obtain ⟨g1, g2, g3, g4⟩ := ch j (by omega)
        rw [show ((258 : Int) + (j : Int)).toNat = 258 + j by omega, (mt.2 j (by omega)).1]
        rw [strE_hi, g4, List.length_append, List.length_singleton] at h3
        have g1' := g1.mono (show j ≤ E.length by omega)
        unfold vcO at g1
        exact ih (D1 j) (x3 + 1) (by omega) g1' (by omega) (by omega)
  exact count c.toNat c 1 (Nat.le_refl _) hc (by omega) (by omega)
end TM
