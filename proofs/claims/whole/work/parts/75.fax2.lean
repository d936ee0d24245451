/-! G3 and G4 in writing: the reference -/
theorem lg_le {u : Int} (hu : 1 ≤ u) (j : Nat) : u / 2 ^ j ≤ 1 ↔ lg u ≤ j := by
  have h1 : (u.toNat : Int) = u := Int.toNat_of_nonneg (by omega)
  have h2 : ((u.toNat / 2 ^ j : Nat) : Int) = u / 2 ^ j := by rw [Int.natCast_ediv, h1]; congr 1
  have h3 : u.toNat.log2 < j + 1 ↔ u.toNat < 2 ^ (j + 1) := Nat.log2_lt (by omega)
  have h4 : u.toNat / 2 ^ j < 2 ↔ u.toNat < 2 * 2 ^ j := Nat.div_lt_iff_lt_mul (Nat.two_pow_pos j)
  have h5 : 2 ^ (j + 1) = 2 * 2 ^ j := by rw [Nat.pow_succ]; omega
  unfold lg
  rw [h5] at h3
  omega
/-- the reference's codes -/
def mC (h : fx_H) : Prop := ∀ i : Nat, i < 41 → h.2.2.1 35 i = fx_tWR.getD i 0 ∧ h.2.2.1 35 (41 + i) = fx_tBL.getD i 0
def mN (h : fx_H) (r : Int → Int) (w : Int) : Prop := ∀ i : Int, 0 ≤ i → i < w → h.2.2.1 36 i.toNat = r i
def mV (h : fx_H) (o : Int → Int) (w : Int) : Prop := ∀ i : Int, 0 ≤ i → i < w → h.2.2.1 37 i.toNat = o i
section FY
variable {l : Launch} {Q : Option Value → fx_H → Prop} {h : fx_H} {a : Nat → Nat} {pp dd : Nat} {g w t : Int} {f : Int → Int → Int} {mk : Int} {r o : Int → Int}
theorem mC.mo {PA PF : Nat → Prop} {h h2 : fx_H} (c : mC h) (m : mo PA PF h h2) (hA : ¬ PA 35) : mC h2 := fun i hi => by
  rw [m.1.2.2.1 35 _ (by rintro (z | z); omega; exact hA z), m.1.2.2.1 35 _ (by rintro (z | z); omega; exact hA z)]; exact c i hi
theorem mN.mo {PA PF : Nat → Prop} {h h2 : fx_H} (c : mN h r w) (m : mo PA PF h h2) (hA : ¬ PA 36) : mN h2 r w := fun i h1 h3 => by rw [m.1.2.2.1 36 _ (by rintro (z | z); omega; exact hA z)]; exact c i h1 h3
theorem mV.mo {PA PF : Nat → Prop} {h h2 : fx_H} (c : mV h r w) (m : mo PA PF h h2) (hA : ¬ PA 37) : mV h2 r w := fun i h1 h3 => by rw [m.1.2.2.1 37 _ (by rintro (z | z); omega; exact hA z)]; exact c i h1 h3
theorem m_outRun {s : WS} {c n : Int} (hS : h.1 = fx_S0 a pp dd) (mc : mC h) (mw : mW h s) (ok : isW s) (hc : c = 0 ∨ c = 1) (hn : 0 ≤ n) (hn2 : n ≤ 40) (cap : (tb s : Int) + lg (RC c n) ≤ 16000) (k : ∀ h2, mo oA oF h h2 → mW h2 (wcode s (RC c n)) → Q none h2) : fx_Mt l M_MO_outRun (0, 0) [.ref 31, .int (zI c), .int (zI n)] h Q := by
  have rc := RC_R (n := n) hc hn hn2
  have hl := lg_nn (RC c n)
  have hl12 : lg (RC c n) ≤ 12 := by have := rc.2.2; split at this <;> omega
  have e : h.2.2.1 35 (41 * c + n).toNat = RC c n := by
    have := mc n.toNat (by omega)
    unfold RC
    rcases hc with rfl | rfl
    · rw [if_pos rfl, show (41 * (0 : Int) + n).toNat = n.toNat by omega]; exact this.1
    · rw [if_neg (by omega), show (41 * (1 : Int) + n).toNat = 41 + n.toNat by omega]; exact this.2
  refine e_MO_outRun hS ⟨by omega, by omega, ?_⟩
  rw [e]
  unfold wcode at k
  generalize RC c n = u at *
  have loop : ∀ (m : Nat) (j : Nat), (j : Int) + m = lg u → fx_V l M_MO_outRun (0, 0) Q 0 0 15 [some (.ref 31), none, none, some (.int (zI u)), some (.int (zI (j : Nat)))] [] h := by
    intro m
    induction m with
    | zero =>
      intro j hj
      have h0 := lg_le rc.1 j
      have hd : 0 ≤ u / 2 ^ j := Int.ediv_nonneg (by omega) (by have := two_pow_pos j; omega)
      refine w_MO_outRun_15 hS ⟨by omega, by omega, by rw [Int.toNat_natCast]; omega, fun _ => ?_, fun z => absurd (by rw [Int.toNat_natCast]; omega) z⟩
      refine m_outBits hS mw ok (by omega) (by omega) (by omega) (by omega) fun h2 c2 w2 => ⟨rfl, c2.S, k h2 c2 ?_⟩
      rw [show (lg u).toNat = (((j : Nat) : Int)).toNat by omega]; exact w2
    | succ m ih =>
      intro j hj
      have h0 := lg_le rc.1 j
      have hd : 0 ≤ u / 2 ^ j ∧ u / 2 ^ j ≤ u := ⟨Int.ediv_nonneg (by omega) (by have := two_pow_pos j; omega), Int.ediv_le_self _ (by omega)⟩
      refine w_MO_outRun_15 hS ⟨by omega, by omega, by rw [Int.toNat_natCast]; omega, fun z => ?_, fun _ => ih (j + 1) (by omega)⟩
      rw [Int.toNat_natCast] at z
      omega
  exact loop (lg u).toNat 0 (by omega)
theorem m_firstNot {A c : Int} (hS : h.1 = fx_S0 a pp dd) (hw : h.2.1 31 15 = w) (hw2 : w ≤ 40) (n : mN h r w) (r01 : ∀ i, r i = 0 ∨ r i = 1) (hA : -1 ≤ A) (hA2 : A < w) (hc : zR c) (k : Q (some (.int (zI (fU r w (A + 1) c)))) h) : fx_Mt l M_MO_firstNot (0, 0) [.ref 31, .int (zI A), .int (zI c)] h Q := by
  refine e_MO_firstNot hS ?_
  have loop : ∀ (m : Nat) (x : Int), 0 ≤ x → x + m = w → Q (some (.int (zI (fp_first (fun i => r i ≠ c) x m)))) h → fx_V l M_MO_firstNot (0, 0) Q 0 0 4 [some (.ref 31), none, some (.int (zI c)), some (.int (zI x))] [] h := by
    intro m
    induction m with
    | zero => intro x h0 hx kq; exact w_MO_firstNot_4 hS ⟨by omega, by omega, fun _ => kq, fun z => by omega⟩
    | succ m ih =>
      intro x h0 hx kq
      have rx := r01 x
      unfold fp_first at kq
      refine w_MO_firstNot_4 hS ⟨by omega, by omega, fun z => by omega, fun _ => ⟨by omega, by omega, ?_⟩⟩
      rw [n x h0 (by omega)]
      refine ⟨by omega, hc, fun z => ?_, fun z => ?_⟩
      · rw [if_pos z] at kq; exact kq
      · rw [if_neg (fun q => q z)] at kq; exact ih (x + 1) (by omega) (by omega) kq
  exact loop _ (A + 1) (by omega) (by omega) k
theorem m_firstAgain {A c : Int} (hS : h.1 = fx_S0 a pp dd) (hw : h.2.1 31 15 = w) (hw2 : w ≤ 40) (n : mN h r w) (r01 : ∀ i, r i = 0 ∨ r i = 1) (hA : 0 ≤ A) (hA2 : A ≤ w) (hc : zR c) (k : Q (some (.int (zI (fA r w A c)))) h) : fx_Mt l M_MO_firstAgain (0, 0) [.ref 31, .int (zI A), .int (zI c)] h Q := by
  refine e_MO_firstAgain hS ?_
  have loop : ∀ (m : Nat) (x : Int), 0 ≤ x → x + m = w → Q (some (.int (zI (fp_first (fun i => r i = c) x m)))) h → fx_V l M_MO_firstAgain (0, 0) Q 0 0 2 [some (.ref 31), none, some (.int (zI c)), some (.int (zI x))] [] h := by
    intro m
    induction m with
    | zero => intro x h0 hx kq; exact w_MO_firstAgain_2 hS ⟨by omega, by omega, fun _ => kq, fun z => by omega⟩
    | succ m ih =>
      intro x h0 hx kq
      have rx := r01 x
      unfold fp_first at kq
      refine w_MO_firstAgain_2 hS ⟨by omega, by omega, fun z => by omega, fun _ => ⟨by omega, by omega, ?_⟩⟩
      rw [n x h0 (by omega)]
      refine ⟨by omega, hc, fun z => ?_, fun z => ?_⟩
      · rw [if_pos z] at kq; exact kq
      · rw [if_neg z] at kq; exact ih (x + 1) (by omega) (by omega) kq
  exact loop _ A (by omega) (by omega) k
theorem m_changeBack {A c : Int} (hS : h.1 = fx_S0 a pp dd) (hw : h.2.1 31 15 = w) (hw2 : w ≤ 40) (n : mV h o w) (r01 : ∀ i, o i = 0 ∨ o i = 1) (hA : 0 ≤ A) (hA2 : A ≤ w) (hc : zR c) (k : Q (some (.int (zI (fA o w A c)))) h) : fx_Mt l M_MO_changeBack (0, 0) [.ref 31, .int (zI A), .int (zI c)] h Q := by
  refine e_MO_changeBack hS ?_
  have loop : ∀ (m : Nat) (x : Int), 0 ≤ x → x + m = w → Q (some (.int (zI (fp_first (fun i => o i = c) x m)))) h → fx_V l M_MO_changeBack (0, 0) Q 0 0 2 [some (.ref 31), none, some (.int (zI c)), some (.int (zI x))] [] h := by
    intro m
    induction m with
    | zero => intro x h0 hx kq; exact w_MO_changeBack_2 hS ⟨by omega, by omega, fun _ => kq, fun z => by omega⟩
    | succ m ih =>
      intro x h0 hx kq
      have rx := r01 x
      unfold fp_first at kq
      refine w_MO_changeBack_2 hS ⟨by omega, by omega, fun z => by omega, fun _ => ⟨by omega, by omega, ?_⟩⟩
      rw [n x h0 (by omega)]
      refine ⟨by omega, hc, fun z => ?_, fun z => ?_⟩
      · rw [if_pos z] at kq; exact kq
      · rw [if_neg z] at kq; exact ih (x + 1) (by omega) (by omega) kq
  exact loop _ A (by omega) (by omega) k
theorem m_changeAbove {A c : Int} (hS : h.1 = fx_S0 a pp dd) (hw : h.2.1 31 15 = w) (hw2 : w ≤ 40) (n : mV h o w) (r01 : ∀ i, o i = 0 ∨ o i = 1) (hA : -1 ≤ A) (hA2 : A < w) (hc : zR c) (k : Q (some (.int (zI (fC o w (A + 1) c)))) h) : fx_Mt l M_MO_changeAbove (0, 0) [.ref 31, .int (zI A), .int (zI c)] h Q := by
  refine e_MO_changeAbove hS ?_
  have loop : ∀ (m : Nat) (x : Int), 0 ≤ x → x + m = w → Q (some (.int (zI (fp_first (fun i => o i ≠ c ∧ (i = 0 ∨ o (i - 1) = c)) x m)))) h → fx_V l M_MO_changeAbove (0, 0) Q 0 0 4 [some (.ref 31), none, some (.int (zI c)), some (.int (zI x))] [] h := by
    intro m
    induction m with
    | zero => intro x h0 hx kq; exact w_MO_changeAbove_4 hS ⟨by omega, by omega, fun _ => kq, fun z => by omega⟩
    | succ m ih =>
      intro x h0 hx kq
      have rx := r01 x
      have rx1 := r01 (x - 1)
      unfold fp_first at kq
      refine w_MO_changeAbove_4 hS ⟨by omega, by omega, fun z => by omega, fun _ => ⟨by omega, by omega, ?_⟩⟩
      rw [n x h0 (by omega)]
      refine ⟨by omega, hc, fun z => ?_, fun z => ⟨fun z2 => ?_, fun z2 => ⟨by omega, by omega, ?_⟩⟩⟩
      · rw [if_neg (fun q => q.1 z)] at kq; exact ih (x + 1) (by omega) (by omega) kq
      · rw [if_pos ⟨z, Or.inl z2⟩] at kq; exact kq
      · rw [n (x - 1) (by omega) (by omega)]
        refine ⟨by omega, fun z3 => ?_, fun z3 => ?_⟩
        · rw [if_pos ⟨z, Or.inr z3⟩] at kq; exact kq
        · rw [if_neg (fun q => q.2.elim z2 z3)] at kq; exact ih (x + 1) (by omega) (by omega) kq
  exact loop _ (A + 1) (by omega) (by omega) k
theorem m_near {x : Int} (hS : h.1 = fx_S0 a pp dd) (h1 : -3 ≤ x) (h2 : x ≤ 3) (k : Q (some (.int (zI (fx_tMD.getD (x + 3).toNat 0)))) h) : fx_Mt l M_MO_near (0, 0) [.int (zI x)] h Q := by
  refine e_MO_near hS ⟨by omega, fun z => ?_, fun z => ?_, fun z => ?_, fun z => ?_, fun z => ?_, fun z => ?_, fun z => ?_⟩
  · have : x = 3 := by omega
    subst this; exact k
  all_goals subst z; exact k
theorem m_outItself {s : WS} (hS : h.1 = fx_S0 a pp dd) (hw : h.2.1 31 15 = w) (hw1 : 1 ≤ w) (hw2 : w ≤ 40) (mc : mC h) (n : mN h r w) (r01 : ∀ i, r i = 0 ∨ r i = 1) (mw : mW h s) (ok : isW s) (cap : tb s + 492 ≤ 16000) (k : ∀ h2, mo oA oF h h2 → mW h2 (byI r w (w + 1).toNat 0 0 s) → Q none h2) : fx_Mt l M_MO_outItself (0, 0) [.ref 31] h Q := by
  refine e_MO_outItself hS ?_
  have loop : ∀ (m d : Nat) (x co : Int) (s3 : WS) (h3 : fx_H), (w - x).toNat + d ≤ m → (d = 0 → x < w → r x = co) → 0 ≤ x → x ≤ w → (co = 0 ∨ co = 1) → isW s3 → (tb s3 : Int) + 12 * ((w - x) + d) ≤ 16000 → mo oA oF h h3 → mW h3 s3 → (∀ h2, mo oA oF h h2 → mW h2 (byI r w m x co s3) → Q none h2) →
      fx_V l M_MO_outItself (0, 0) Q 0 0 4 [some (.ref 31), some (.int (zI x)), some (.int (zI co)), none] [] h3 := by
    intro m
    induction m with
    | zero =>
      intro d x co s3 h3 hm hd hx hxw hco ok3 cap3 c3 w3 kq
      have hw3 : h3.2.1 31 15 = w := (c3.2 15 (by omega)).trans hw
      exact w_MO_outItself_4 (c3.S.trans hS) ⟨by omega, by omega, fun _ => kq h3 c3 w3, fun z => by omega⟩
    | succ m ih =>
      intro d x co s3 h3 hm hd hx hxw hco ok3 cap3 c3 w3 kq
      have hw3 : h3.2.1 31 15 = w := (c3.2 15 (by omega)).trans hw
      have hS3 := c3.S.trans hS
      rw [byI] at kq
      by_cases hz : w ≤ x
      · rw [if_pos hz] at kq
        exact w_MO_outItself_4 hS3 ⟨by omega, by omega, fun _ => kq h3 c3 w3, fun z => by omega⟩
      · rw [if_neg hz] at kq
        have a1 := fU_R (r := r) (c := co) hxw
        have a2 := fU_at (r := r) (c := co) hxw
        have a3 : d = 0 → x < fU r w x co := fun h0 => fU_gt (by omega) (hd h0 (by omega))
        have rc := RC_R (n := fU r w x co - x) hco (by omega) (by omega)
        have hl := lg_nn (RC co (fU r w x co - x))
        have r9 := r01 (fU r w x co)
        have hl12 : lg (RC co (fU r w x co - x)) ≤ 12 := by have := rc.2.2; split at this <;> omega
        refine w_MO_outItself_4 hS3 ⟨by omega, by omega, fun z => by omega, fun _ => ?_⟩
        have fin : fx_Mt l M_MO_outRun (0, 0) [.ref 31, .int (zI co), .int (zI (fU r w x co - x))] h3 (fun v h4 => v = none ∧ h4.1 = h3.1 ∧ (fx_V l M_MO_outItself (0, 0) Q 0 0 4 [some (.ref 31), some (.int (zI (fU r w x co))), some (.int (zI (1 - co))), none] [] h4)) := by
          refine m_outRun hS3 (mc.mo c3 (by omega)) w3 ok3 hco (by omega) (by omega) (by omega) fun h4 c4 w4 => ⟨rfl, c4.S, ?_⟩
          exact ih 0 _ (1 - co) _ h4 (by omega) (fun _ h1 => by have h9 := a2 h1; omega) (by omega) (by omega) (by omega) (isW_code ok3) (by rw [tb_code ok3]; omega) (c3.tr c4) w4 kq
        have inner : ∀ (j : Nat) (z : Int), x ≤ z → z + j = w → fp_first (fun i => r i ≠ co) z j = fU r w x co → fx_V l M_MO_outItself (0, 0) Q 0 0 14 [some (.ref 31), some (.int (zI x)), some (.int (zI co)), some (.int (zI z))] [] h3 := by
          intro j
          induction j with
          | zero =>
            intro z hz1 hz2 hf
            refine w_MO_outItself_14 hS3 ⟨by omega, by omega, fun _ => ?_, fun z => by omega⟩
            have : z = fU r w x co := by rw [← hf]; rfl
            rw [this]; exact fin
          | succ j ihj =>
            intro z hz1 hz2 hf
            have rz := r01 z
            unfold fp_first at hf
            refine w_MO_outItself_14 hS3 ⟨by omega, by omega, fun z => by omega, fun _ => ⟨by omega, by omega, ?_⟩⟩
            rw [n.mo c3 (by omega) z (by omega) (by omega)]
            refine ⟨by omega, by omega, fun z9 => ?_, fun z9 => ?_⟩
            · rw [if_pos z9] at hf
              rw [hf]; exact fin
            · rw [if_neg (fun q => q z9)] at hf
              exact ihj (z + 1) (by omega) (by omega) hf
        exact inner _ x (Int.le_refl _) (by omega) rfl
  exact loop _ 1 0 0 s h (by omega) (fun z => by omega) (by omega) (by omega) (Or.inl rfl) ok (by omega) mo.rf mw k
theorem m_outBy {s : WS} (hS : h.1 = fx_S0 a pp dd) (hw : h.2.1 31 15 = w) (hw1 : 1 ≤ w) (hw2 : w ≤ 40) (mc : mC h) (n : mN h r w) (nv : mV h o w) (r01 : ∀ i, r i = 0 ∨ r i = 1) (o01 : ∀ i, o i = 0 ∨ o i = 1) (mw : mW h s) (ok : isW s) (cap : 2 * (tb s : Int) + cst w (-1) ≤ 32000) (k : ∀ h2, mo oA oF h h2 → mW h2 (byA r o w (w + 1).toNat (-1) 0 s) → Q none h2) : fx_Mt l M_MO_outBy (0, 0) [.ref 31] h Q := by
  refine e_MO_outBy hS ?_
  have loop : ∀ (m : Nat) (A co : Int) (s3 : WS) (h3 : fx_H), (w - A).toNat ≤ m → -1 ≤ A → A ≤ w → (co = 0 ∨ co = 1) → isW s3 → 2 * (tb s3 : Int) + cst w A ≤ 32000 → mo oA oF h h3 → mW h3 s3 → (∀ h2, mo oA oF h h2 → mW h2 (byA r o w m A co s3) → Q none h2) →
      fx_V l M_MO_outBy (0, 0) Q 0 0 4 [some (.ref 31), some (.int (zI A)), some (.int (zI co)), none, none, none, none, none] [] h3 := by
    intro m
    induction m with
    | zero =>
      intro A co s3 h3 hm hA hAw hco ok3 cap3 c3 w3 kq
      have hw3 : h3.2.1 31 15 = w := (c3.2 15 (by omega)).trans hw
      exact w_MO_outBy_4 (c3.S.trans hS) ⟨by omega, by omega, fun _ => kq h3 c3 w3, fun z => by omega⟩
    | succ m ih =>
      intro A co s3 h3 hm hA hAw hco ok3 cap3 c3 w3 kq
      have hw3 : h3.2.1 31 15 = w := (c3.2 15 (by omega)).trans hw
      have hS3 := c3.S.trans hS
      rw [byA] at kq
      by_cases hz : w ≤ A
      · rw [if_pos hz] at kq
        exact w_MO_outBy_4 hS3 ⟨by omega, by omega, fun _ => kq h3 c3 w3, fun z => by omega⟩
      · rw [if_neg hz] at kq
        have hA1 : A + 1 ≤ w := by omega
        have a1 := fU_R (r := r) (c := co) hA1
        have b1 := fC_R (r := o) (c := co) hA1
        have b2 := fA_R (r := o) (c := co) b1.2
        have a2 := fA_R (r := r) (c := co) a1.2
        have u0 := fU_at (r := r) (c := co) hA1
        have a3 := fA_gt (r := r) (c := co) a1.2 u0
        have hcap : 2 * (tb s3 : Int) + (23 * (w - A) + 46) ≤ 32000 := by unfold cst at cap3; rw [if_pos (by omega)] at cap3; exact cap3
        refine w_MO_outBy_4 hS3 ⟨by omega, by omega, fun z => by omega, fun _ => ?_⟩
        refine m_firstNot hS3 hw3 hw2 (n.mo c3 (by omega)) r01 hA (by omega) (by omega) ⟨_, rfl, rfl, ?_⟩
        refine m_changeAbove hS3 hw3 hw2 (nv.mo c3 (by omega)) o01 hA (by omega) (by omega) ⟨_, rfl, rfl, ?_⟩
        refine m_changeBack hS3 hw3 hw2 (nv.mo c3 (by omega)) o01 (by omega) b1.2 (by omega) ⟨_, rfl, rfl, ?_⟩
        have again : ∀ {Q2 : Option Value → fx_H → Prop}, Q2 (some (.int (zI (fA r w (fU r w (A + 1) co) co)))) h3 → fx_Mt l M_MO_firstAgain (0, 0) [.ref 31, .int (zI (fU r w (A + 1) co)), .int (zI co)] h3 Q2 := fun k2 => m_firstAgain hS3 hw3 hw2 (n.mo c3 (by omega)) r01 (by omega) a1.2 (by omega) k2
        generalize fU r w (A + 1) co = A1 at *
        generalize fC o w (A + 1) co = B1 at *
        generalize fA o w B1 co = B2 at *
        have two : ¬ B2 < A1 → ¬ (B1 - 3 ≤ A1 ∧ A1 ≤ B1 + 3) → fx_Mt l M_MO_firstAgain (0, 0) [.ref 31, .int (zI A1), .int (zI co)] h3 (fun v h18 => ∃ r20 : Int, v = some (.int (zI r20)) ∧ h18.1 = h3.1 ∧ fx_Mt l M_MO_outBits (0, 0) [.ref 31, .int (zI 1), .int (zI 3)] h18 (fun v h21 => v = none ∧ h21.1 = h18.1 ∧ ((0 ≤ A → fx_Mt l M_MO_outRun (0, 0) [.ref 31, .int (zI co), .int (zI (A1 - A))] h21 (fun v h24 => v = none ∧ h24.1 = h21.1 ∧ fx_Mt l M_MO_outRun (0, 0) [.ref 31, .int (zI (1 - co)), .int (zI (r20 - A1))] h24 (fun v h26 => v = none ∧ h26.1 = h24.1 ∧ (fx_V l M_MO_outBy (0, 0) Q 0 0 4 [some (.ref 31), some (.int (zI r20)), some (.int (zI co)), none, none, none, none, none] [] h26)))) ∧ (¬ (0 ≤ A) → fx_Mt l M_MO_outRun (0, 0) [.ref 31, .int (zI co), .int (zI (A1 - 0))] h21 (fun v h28 => v = none ∧ h28.1 = h21.1 ∧ fx_Mt l M_MO_outRun (0, 0) [.ref 31, .int (zI (1 - co)), .int (zI (r20 - A1))] h28 (fun v h30 => v = none ∧ h30.1 = h28.1 ∧ (fx_V l M_MO_outBy (0, 0) Q 0 0 4 [some (.ref 31), some (.int (zI r20)), some (.int (zI co)), none, none, none, none, none] [] h30))))))) := by
          intro n1 n2
          rw [if_neg n1, if_neg n2] at kq
          refine again ⟨_, rfl, rfl, ?_⟩
          have ha0 : 0 ≤ (if A < 0 then 0 else A) ∧ (if A < 0 then 0 else A) ≤ A + 1 ∧ (0 ≤ A → (if A < 0 then 0 else A) = A) ∧ (¬ 0 ≤ A → (if A < 0 then 0 else A) = 0) := by split <;> omega
          generalize (if A < 0 then 0 else A) = z0 at ha0 kq
          generalize fA r w A1 co = A2 at *
          have rc := RC_R (n := A1 - z0) hco (by omega) (by omega)
          have rd := RC_R (c := 1 - co) (n := A2 - A1) (by omega) (by omega) (by omega)
          have hl := lg_nn (RC co (A1 - z0))
          have hl2 := lg_nn (RC (1 - co) (A2 - A1))
          have hsum : lg (RC co (A1 - z0)) + lg (RC (1 - co) (A2 - A1)) ≤ 20 ∧ lg (RC co (A1 - z0)) ≤ 12 ∧ lg (RC (1 - co) (A2 - A1)) ≤ 12 := by
            have e1 := rc.2.2
            have e2 := rd.2.2
            rcases hco with rfl | rfl
            · rw [if_pos rfl] at e1; rw [if_neg (by omega)] at e2; omega
            · rw [if_neg (by omega)] at e1; rw [if_pos (show (1 : Int) - 1 = 0 by omega)] at e2; omega
          refine m_outBits hS3 w3 ok3 (by omega) (by omega) (by omega) (by omega) fun h4 c4 w4 => ⟨rfl, c4.S, ?_⟩
          have e9 : wbits s3 1 (3 : Int).toNat = wcode s3 9 := by unfold wcode; rw [lg_9]; rfl
          rw [e9] at w4
          have rest : fx_Mt l M_MO_outRun (0, 0) [.ref 31, .int (zI co), .int (zI (A1 - z0))] h4 (fun v h24 => v = none ∧ h24.1 = h4.1 ∧ fx_Mt l M_MO_outRun (0, 0) [.ref 31, .int (zI (1 - co)), .int (zI (A2 - A1))] h24 (fun v h26 => v = none ∧ h26.1 = h24.1 ∧ (fx_V l M_MO_outBy (0, 0) Q 0 0 4 [some (.ref 31), some (.int (zI A2)), some (.int (zI co)), none, none, none, none, none] [] h26))) := by
            refine m_outRun (c4.S.trans hS3) (mc.mo (c3.tr c4) (by omega)) w4 (isW_code ok3) hco (by omega) (by omega) (by rw [tb_code ok3, lg_9]; omega) fun h5 c5 w5 => ⟨rfl, c5.S, ?_⟩
            refine m_outRun (c5.S.trans (c4.S.trans hS3)) (mc.mo ((c3.tr c4).tr c5) (by omega)) w5 (isW_code (isW_code ok3)) (by omega) (by omega) (by omega) (by rw [tb_code (isW_code ok3), tb_code ok3, lg_9]; omega) fun h6 c6 w6 => ⟨rfl, c6.S, ?_⟩
            refine ih A2 co _ h6 (by omega) (by omega) (by omega) hco (isW_code (isW_code (isW_code ok3))) ?_ (((c3.tr c4).tr c5).tr c6) w6 kq
            rw [tb_code (isW_code (isW_code ok3)), tb_code (isW_code ok3), tb_code ok3, lg_9]
            unfold cst
            split
            · have := a3 (by omega); omega
            · omega
          refine ⟨fun z => ?_, fun z => ?_⟩
          · rw [ha0.2.2.1 z] at rest; exact rest
          · rw [ha0.2.2.2 z] at rest; exact rest
        refine ⟨by omega, by omega, fun z => ⟨by omega, fun z2 => two (by omega) (by omega), fun z2 => ⟨by omega, fun z3 => two (by omega) (by omega), fun z3 => ?_⟩⟩, fun z => ?_⟩
        · rw [if_neg (by omega), if_pos ⟨by omega, by omega⟩] at kq
          refine m_near hS3 (by omega) (by omega) ⟨_, rfl, rfl, ?_⟩
          have md := MD_all (A1 - B1 + 3).toNat (by omega)
          have hl := lg_nn (fx_tMD.getD (A1 - B1 + 3).toNat 0)
          unfold wcode at kq
          generalize fx_tMD.getD (A1 - B1 + 3).toNat 0 = u at *
          have loop2 : ∀ (m2 : Nat) (j : Nat), (j : Int) + m2 = lg u → fx_V l M_MO_outBy (0, 0) Q 0 0 82 [some (.ref 31), none, some (.int (zI co)), some (.int (zI A1)), none, none, some (.int (zI u)), some (.int (zI (j : Nat)))] [] h3 := by
            intro m2
            induction m2 with
            | zero =>
              intro j hj
              have h0 := lg_le md.1 j
              have hd : 0 ≤ u / 2 ^ j := Int.ediv_nonneg (by omega) (by have := two_pow_pos j; omega)
              refine w_MO_outBy_82 hS3 ⟨by omega, by omega, by rw [Int.toNat_natCast]; omega, fun _ => ?_, fun z => absurd (by rw [Int.toNat_natCast]; omega) z⟩
              refine m_outBits hS3 w3 ok3 (by omega) (by omega) (by omega) (by omega) fun h4 c4 w4 => ⟨rfl, c4.S, ?_⟩
              rw [show (((j : Nat) : Int)).toNat = (lg u).toNat by omega] at w4
              refine ih A1 (1 - co) _ h4 (by omega) (by omega) (by omega) (by omega) (isW_bits _ ok3) ?_ (c3.tr c4) w4 kq
              rw [tb_bits _ ok3]
              unfold cst
              split <;> omega
            | succ m2 ih2 =>
              intro j hj
              have h0 := lg_le md.1 j
              have hd : 0 ≤ u / 2 ^ j ∧ u / 2 ^ j ≤ u := ⟨Int.ediv_nonneg (by omega) (by have := two_pow_pos j; omega), Int.ediv_le_self _ (by omega)⟩
              refine w_MO_outBy_82 hS3 ⟨by omega, by omega, by rw [Int.toNat_natCast]; omega, fun z => ?_, fun _ => ih2 (j + 1) (by omega)⟩
              rw [Int.toNat_natCast] at z
              omega
          exact loop2 (lg u).toNat 0 (by omega)
        · rw [if_pos (by omega)] at kq
          refine m_outBits hS3 w3 ok3 (by omega) (by omega) (by omega) (by omega) fun h4 c4 w4 => ⟨rfl, c4.S, ?_⟩
          have e17 : wbits s3 1 (4 : Int).toNat = wcode s3 17 := by unfold wcode; rw [lg_17]; rfl
          rw [e17] at w4
          refine ih B2 co _ h4 (by omega) (by omega) (by omega) hco (isW_code ok3) ?_ (c3.tr c4) w4 kq
          rw [tb_code ok3, lg_17]
          unfold cst
          split <;> omega
  exact loop _ (-1) 0 s h (by omega) (by omega) (by omega) (Or.inl rfl) ok cap mo.rf mw k
end FY
