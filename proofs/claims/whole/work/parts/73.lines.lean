/-! lines: what they are in bits; the class -/
def fU (r : Int → Int) (w x c : Int) : Int := fp_first (fun i => r i ≠ c) x (w - x).toNat
def fA (r : Int → Int) (w x c : Int) : Int := fp_first (fun i => r i = c) x (w - x).toNat
def fC (o : Int → Int) (w x c : Int) : Int := fp_first (fun i => o i ≠ c ∧ (i = 0 ∨ o (i - 1) = c)) x (w - x).toNat
def RC (c n : Int) : Int := (if c = 0 then fx_tWR else fx_tBL).getD n.toNat 0
def wcode (s : WS) (u : Int) : WS := wbits s u (lg u).toNat
def byI (r : Int → Int) (w : Int) : Nat → Int → Int → WS → WS
  | 0, _, _, s => s
  | k + 1, x, c, s => if w ≤ x then s else byI r w k (fU r w x c) (1 - c) (wcode s (RC c (fU r w x c - x)))
def byA (r o : Int → Int) (w : Int) : Nat → Int → Int → WS → WS
  | 0, _, _, s => s
  | k + 1, a, c, s => if w ≤ a then s else
    if fA o w (fC o w (a + 1) c) c < fU r w (a + 1) c then byA r o w k (fA o w (fC o w (a + 1) c) c) c (wcode s 17)
    else if fC o w (a + 1) c - 3 ≤ fU r w (a + 1) c ∧ fU r w (a + 1) c ≤ fC o w (a + 1) c + 3 then byA r o w k (fU r w (a + 1) c) (1 - c) (wcode s (fx_tMD.getD (fU r w (a + 1) c - fC o w (a + 1) c + 3).toNat 0))
    else byA r o w k (fA r w (fU r w (a + 1) c) c) c (wcode (wcode (wcode s 9) (RC c (fU r w (a + 1) c - (if a < 0 then 0 else a)))) (RC (1 - c) (fA r w (fU r w (a + 1) c) c - fU r w (a + 1) c)))
def faxL (mk w : Int) (f : Int → Int → Int) (top y : Int) (s : WS) : WS :=
  if mk = 0 then byA (fun i => f i y) (fun i => f i (if y = top then -1 else y - 1)) w (w + 1).toNat (-1) 0 s
  else if (y - top) % 4 = 0 then byI (fun i => f i y) w (w + 1).toNat 0 0 (wbit (wbits s 1 12) 1)
  else byA (fun i => f i y) (fun i => f i (if y = top then -1 else y - 1)) w (w + 1).toNat (-1) 0 (wbit (wbits s 1 12) 0)
def faxW (mk w : Int) (f : Int → Int → Int) (top : Int) : Nat → Int → WS → WS
  | 0, _, s => wrest (if mk = 0 then wbits (wbits s 1 12) 1 12 else s)
  | m + 1, y, s => faxW mk w f top m (y + 1) (faxL mk w f top y s)
theorem ff_at {q : Int → Prop} [DecidablePred q] : ∀ (m : Nat) (x : Int), fp_first q x m < x + m → q (fp_first q x m)
  | 0, x, h => by simp [fp_first] at h
  | m + 1, x, h => by
    unfold fp_first at h ⊢
    split
    · assumption
    · rename_i hz
      rw [if_neg hz] at h
      exact ff_at m (x + 1) (by omega)
theorem ff_congr {q q2 : Int → Prop} [DecidablePred q] [DecidablePred q2] : ∀ (m : Nat) (x : Int), (∀ i, x ≤ i → i < x + m → (q i ↔ q2 i)) → fp_first q x m = fp_first q2 x m
  | 0, x, _ => rfl
  | m + 1, x, h => by
    unfold fp_first
    have h0 := h x (Int.le_refl _) (by omega)
    by_cases hz : q x
    · rw [if_pos hz, if_pos (h0.mp hz)]
    · rw [if_neg hz, if_neg (fun z => hz (h0.mpr z))]
      exact ff_congr m (x + 1) fun i h1 h2 => h i (by omega) (by omega)
theorem fU_R {r : Int → Int} {w x c : Int} (h : x ≤ w) : x ≤ fU r w x c ∧ fU r w x c ≤ w := by
  have := ff_R (q := fun i => r i ≠ c) (w - x).toNat x; unfold fU; omega
theorem fA_R {r : Int → Int} {w x c : Int} (h : x ≤ w) : x ≤ fA r w x c ∧ fA r w x c ≤ w := by
  have := ff_R (q := fun i => r i = c) (w - x).toNat x; unfold fA; omega
theorem fC_R {r : Int → Int} {w x c : Int} (h : x ≤ w) : x ≤ fC r w x c ∧ fC r w x c ≤ w := by
  have := ff_R (q := fun i => r i ≠ c ∧ (i = 0 ∨ r (i - 1) = c)) (w - x).toNat x; unfold fC; omega
theorem fU_at {r : Int → Int} {w x c : Int} (h : x ≤ w) (h2 : fU r w x c < w) : r (fU r w x c) ≠ c := ff_at (q := fun i => r i ≠ c) (w - x).toNat x (by unfold fU at h2; omega)
theorem fA_at {r : Int → Int} {w x c : Int} (h : x ≤ w) (h2 : fA r w x c < w) : r (fA r w x c) = c := ff_at (q := fun i => r i = c) (w - x).toNat x (by unfold fA at h2; omega)
theorem fC_at {r : Int → Int} {w x c : Int} (h : x ≤ w) (h2 : fC r w x c < w) : r (fC r w x c) ≠ c := (ff_at (q := fun i => r i ≠ c ∧ (i = 0 ∨ r (i - 1) = c)) (w - x).toNat x (by unfold fC at h2; omega)).1
theorem fA_gt {r : Int → Int} {w x c : Int} (h : x ≤ w) (h0 : x < w → r x ≠ c) (h2 : fA r w x c < w) : x < fA r w x c := by
  have a := fA_R (r := r) (c := c) h
  have b := fA_at h h2
  by_cases hx : fA r w x c = x
  · rw [hx] at b; exact absurd b (h0 (by omega))
  · omega
theorem fU_gt {r : Int → Int} {w x c : Int} (h : x < w) (h0 : r x = c) : x < fU r w x c := by
  unfold fU
  rw [show (w - x).toNat = (w - x - 1).toNat + 1 by omega, fp_first, if_neg (fun z => z h0)]
  have := (ff_R (q := fun i => r i ≠ c) (w - x - 1).toNat (x + 1)).1
  omega
theorem fA_class {r : Int → Int} {w x c : Int} (r01 : ∀ i, r i = 0 ∨ r i = 1) (hc : c = 0 ∨ c = 1) (h : x ≤ w) (h0 : x < w → r x ≠ c) : (if w ≤ x + 1 then w else fp_first (fun i => r i ≠ 1 - c) (x + 1) (w - (x + 1)).toNat) = fA r w x c := by
  unfold fA
  by_cases hx : x = w
  · rw [if_pos (by omega), show (w - x).toNat = 0 by omega, fp_first, hx]
  · rw [show (w - x).toNat = (w - (x + 1)).toNat + 1 by omega, fp_first, if_neg (h0 (by omega))]
    by_cases hw : w ≤ x + 1
    · rw [if_pos hw, show (w - (x + 1)).toNat = 0 by omega, fp_first]; omega
    · rw [if_neg hw]
      refine ff_congr _ _ fun i _ _ => ?_
      have := r01 i
      omega
theorem RC_all : ∀ n : Nat, n < 41 → (1 ≤ fx_tWR.getD n 0 ∧ fx_tWR.getD n 0 < 8192 ∧ lg (fx_tWR.getD n 0) ≤ 8) ∧ (1 ≤ fx_tBL.getD n 0 ∧ fx_tBL.getD n 0 < 8192 ∧ lg (fx_tBL.getD n 0) ≤ 12) := by decide +kernel
theorem MD_all : ∀ n : Nat, n < 9 → 1 ≤ fx_tMD.getD n 0 ∧ fx_tMD.getD n 0 < 8192 ∧ lg (fx_tMD.getD n 0) ≤ 7 := by decide +kernel
theorem lg_9 : lg 9 = 3 := by decide +kernel
theorem lg_17 : lg 17 = 4 := by decide +kernel
theorem lg_nn (u : Int) : 0 ≤ lg u := by unfold lg; omega
theorem RC_R {c n : Int} (hc : c = 0 ∨ c = 1) (hn : 0 ≤ n) (hn2 : n ≤ 40) : 1 ≤ RC c n ∧ RC c n < 8192 ∧ lg (RC c n) ≤ (if c = 0 then 8 else 12) := by
  have := RC_all n.toNat (by omega)
  unfold RC
  rcases hc with rfl | rfl
  · simp only [if_true]; exact this.1
  · rw [if_neg (by omega), if_neg (by omega)]; exact this.2
theorem tb_code {s : WS} {u : Int} (h : isW s) : tb (wcode s u) = tb s + (lg u).toNat := tb_bits _ h
theorem isW_code {s : WS} {u : Int} (h : isW s) : isW (wcode s u) := isW_bits _ h
/-- what a line by another may cost -/
def cst (w a : Int) : Int := if a < w then 23 * (w - a) + 46 else 0
section LI
variable {l : Launch} {Q : Option Value → fx_H → Prop} {h : fx_H} {a : Nat → Nat} {pp dd p : Nat} {g w t : Int} {f : Int → Int → Int} {r o : Int → Int}
theorem byI_R (hw : w ≤ 40) (r01 : ∀ i, r i = 0 ∨ r i = 1) : ∀ (m : Nat) (d : Nat) (x c : Int) (s : WS), (w - x).toNat + d ≤ m → (d = 0 → x < w → r x = c) → 0 ≤ x → x ≤ w → (c = 0 ∨ c = 1) → isW s → isW (byI r w m x c s) ∧ (tb (byI r w m x c s) : Int) ≤ tb s + 12 * ((w - x) + d)
  | 0, d, x, c, s, hm, hd, hx, hxw, hc, ok => by rw [byI]; exact ⟨ok, by omega⟩
  | m + 1, d, x, c, s, hm, hd, hx, hxw, hc, ok => by
    rw [byI]
    by_cases hz : w ≤ x
    · rw [if_pos hz]; exact ⟨ok, by omega⟩
    · rw [if_neg hz]
      have a1 := fU_R (r := r) (c := c) hxw
      have a2 := fU_at (r := r) (c := c) hxw
      have a3 : d = 0 → x < fU r w x c := fun h0 => fU_gt (by omega) (hd h0 (by omega))
      have rc := RC_R (n := fU r w x c - x) hc (by omega) (by omega)
      have hl := lg_nn (RC c (fU r w x c - x))
      have r9 := r01 (fU r w x c)
      have ih := byI_R hw r01 m 0 (fU r w x c) (1 - c) (wcode s (RC c (fU r w x c - x))) (by omega) (fun _ h1 => by have := a2 h1; omega) (by omega) (by omega) (by omega) (isW_code ok)
      rw [tb_code ok] at ih
      refine ⟨ih.1, Int.le_trans ih.2 ?_⟩
      split at rc <;> omega
theorem byA_R (hw : w ≤ 40) : ∀ (m : Nat) (a c : Int) (s : WS), -1 ≤ a → a ≤ w → (c = 0 ∨ c = 1) → isW s → isW (byA r o w m a c s) ∧ 2 * (tb (byA r o w m a c s) : Int) ≤ 2 * tb s + cst w a
  | 0, a, c, s, h1, h2, hc, ok => by rw [byA]; refine ⟨ok, ?_⟩; unfold cst; split <;> omega
  | m + 1, a, c, s, h1, h2, hc, ok => by
    rw [byA]
    by_cases hz : w ≤ a
    · rw [if_pos hz]; refine ⟨ok, ?_⟩; unfold cst; split <;> omega
    · rw [if_neg hz]
      have a1 := fU_R (r := r) (c := c) (show a + 1 ≤ w by omega)
      have b1 := fC_R (r := o) (c := c) (show a + 1 ≤ w by omega)
      have b2 := fA_R (r := o) (c := c) b1.2
      have a2 := fA_R (r := r) (c := c) a1.2
      have a3 := fA_gt (r := r) (c := c) a1.2 (fU_at (show a + 1 ≤ w by omega))
      by_cases hp : fA o w (fC o w (a + 1) c) c < fU r w (a + 1) c
      · rw [if_pos hp]
        have ih := byA_R hw m (fA o w (fC o w (a + 1) c) c) c (wcode s 17) (by omega) (by omega) hc (isW_code ok)
        rw [tb_code ok, lg_17] at ih
        refine ⟨ih.1, Int.le_trans ih.2 ?_⟩
        unfold cst
        split <;> split <;> omega
      · rw [if_neg hp]
        by_cases hn : fC o w (a + 1) c - 3 ≤ fU r w (a + 1) c ∧ fU r w (a + 1) c ≤ fC o w (a + 1) c + 3
        · rw [if_pos hn]
          have md := MD_all (fU r w (a + 1) c - fC o w (a + 1) c + 3).toNat (by omega)
          have hl := lg_nn (fx_tMD.getD (fU r w (a + 1) c - fC o w (a + 1) c + 3).toNat 0)
          have ih := byA_R hw m (fU r w (a + 1) c) (1 - c) (wcode s (fx_tMD.getD (fU r w (a + 1) c - fC o w (a + 1) c + 3).toNat 0)) (by omega) (by omega) (by omega) (isW_code ok)
          rw [tb_code ok] at ih
          refine ⟨ih.1, Int.le_trans ih.2 ?_⟩
          unfold cst
          split <;> split <;> omega
        · rw [if_neg hn]
          have ha0 : 0 ≤ (if a < 0 then 0 else a) ∧ (if a < 0 then 0 else a) ≤ a + 1 := by split <;> omega
          generalize (if a < 0 then 0 else a) = z0 at ha0 ⊢
          have rc := RC_R (n := fU r w (a + 1) c - z0) hc (by omega) (by omega)
          have rd := RC_R (c := 1 - c) (n := fA r w (fU r w (a + 1) c) c - fU r w (a + 1) c) (by omega) (by omega) (by omega)
          have hl := lg_nn (RC c (fU r w (a + 1) c - z0))
          have hl2 := lg_nn (RC (1 - c) (fA r w (fU r w (a + 1) c) c - fU r w (a + 1) c))
          have ih := byA_R hw m (fA r w (fU r w (a + 1) c) c) c (wcode (wcode (wcode s 9) (RC c (fU r w (a + 1) c - z0))) (RC (1 - c) (fA r w (fU r w (a + 1) c) c - fU r w (a + 1) c))) (by omega) (by omega) hc (isW_code (isW_code (isW_code ok)))
          rw [tb_code (isW_code (isW_code ok)), tb_code (isW_code ok), tb_code ok, lg_9] at ih
          refine ⟨ih.1, Int.le_trans ih.2 ?_⟩
          have hsum : lg (RC c (fU r w (a + 1) c - z0)) + lg (RC (1 - c) (fA r w (fU r w (a + 1) c) c - fU r w (a + 1) c)) ≤ 20 := by
            have e1 := rc.2.2
            have e2 := rd.2.2
            rcases hc with rfl | rfl
            · rw [if_pos rfl] at e1; rw [if_neg (by omega)] at e2; omega
            · rw [if_neg (by omega)] at e1; rw [if_pos (show (1 : Int) - 1 = 0 by omega)] at e2; omega
          unfold cst
          rw [if_pos (show a < w by omega)]
          split
          · have := a3 (by omega); omega
          · omega
theorem m_runCode {n c : Int} (hS : h.1 = fx_S0 a pp dd) (hc : c = 0 ∨ c = 1) (hn : 0 ≤ n) (hn2 : n ≤ 40) (k : Q (some (.int (zI (RC c n)))) h) : fx_Mt l M_LI_runCode (0, 0) [.int (zI n), .int (zI c)] h Q := by
  have e : (if 0 < (if 40 < n then 40 else n) then if 40 < n then 40 else n else 0) = n := by
    rw [if_neg (by omega : ¬ 40 < n)]; split <;> omega
  unfold RC at k
  refine e_LI_runCode hS ?_
  rw [e]
  refine ⟨by omega, by split <;> omega, by omega, fun z => ⟨hn, by omega, ?_⟩, fun z => ⟨hn, by omega, ?_⟩⟩
  · rw [if_neg z] at k; exact k
  · rw [if_pos z] at k; exact k
theorem m_code {s : WS} {u : Int} (hS : h.1 = fx_S0 a pp dd) (cw : cW h s) (ok : isW s) (hu : 1 ≤ u) (hu2 : u < 8192) (hl : lg u ≤ 12) (cap : tb s + lg u ≤ 16000) (k : ∀ h2, cs h h2 → cW h2 (wcode s u) → Q none h2) : fx_Mt l M_BY_appendCode (0, 0) [.ref 1, .int (zI u)] h Q := m_appendCode hS cw ok hu (by omega) (by omega) cap k
theorem m_fUP {y x c : Int} (cp : cP h p g w t f) (hy : zR y) (hx : 0 ≤ x) (hxw : x ≤ w) (hc : zR c) (kk : Q (some (.int (zI (fU (fun i => f i y) w x c)))) h) : fx_Mt l M_PI_firstUnlike (0, 0) [.ref p, .int (zI y), .int (zI x), .int (zI c)] h Q := by
  obtain ⟨c1, c2, c3, rfl, rfl, rfl, c7, c8⟩ := cp
  have hw40 := c1.2.2.2.2.1
  refine m_firstUnlike c1 c2 hy (by omega) (by omega) hc ?_
  have e : (if h.2.1 p 2 ≤ x then h.2.1 p 2 else fp_first (fun i => fp_px h p i y ≠ c) x (h.2.1 p 2 - x).toNat) = fU (fun i => f i y) (h.2.1 p 2) x c := by
    unfold fU
    by_cases hz : h.2.1 p 2 ≤ x
    · rw [if_pos hz, show (h.2.1 p 2 - x).toNat = 0 by omega, fp_first]; omega
    · rw [if_neg hz]
      exact ff_congr _ _ fun i _ _ => by rw [c7]
  rw [e]
  exact kk
theorem m_fAP {y x c : Int} (cp : cP h p g w t f) (hg : g = 0) (hy : zR y) (hx : 0 ≤ x) (hxw : x ≤ w) (hc : c = 0 ∨ c = 1) (h0 : x < w → f x y ≠ c) (kk : Q (some (.int (zI (fA (fun i => f i y) w x c)))) h) : fx_Mt l M_PI_firstUnlike (0, 0) [.ref p, .int (zI y), .int (zI (x + 1)), .int (zI (1 - c))] h Q := by
  obtain ⟨c1, c2, c3, rfl, rfl, rfl, c7, c8⟩ := cp
  have hw40 := c1.2.2.2.2.1
  refine m_firstUnlike c1 c2 hy (by omega) (by omega) (by omega) ?_
  have e := fA_class (r := fun i => f i y) (w := h.2.1 p 2) (x := x) (c := c) (fun i => by have := c8.2.2.2.2.2.2.1 i y; rw [if_pos hg] at this; show f i y = 0 ∨ f i y = 1; omega) hc hxw h0
  have e2 : fp_first (fun i => fp_px h p i y ≠ 1 - c) (x + 1) (h.2.1 p 2 - (x + 1)).toNat = fp_first (fun i => f i y ≠ 1 - c) (x + 1) (h.2.1 p 2 - (x + 1)).toNat := ff_congr _ _ fun i _ _ => by rw [c7]
  rw [e2, e]
  exact kk
theorem m_fCP {y x c : Int} (cp : cP h p g w t f) (hy : zR y) (hx : 0 ≤ x) (hxw : x ≤ w) (hc : zR c) (kk : Q (some (.int (zI (fC (fun i => f i y) w x c)))) h) : fx_Mt l M_PI_firstChange (0, 0) [.ref p, .int (zI y), .int (zI x), .int (zI c)] h Q := by
  obtain ⟨c1, c2, c3, rfl, rfl, rfl, c7, c8⟩ := cp
  obtain ⟨⟨a, h1⟩, ⟨b, h2⟩, hg, hw1, hw2, hh1, hh2⟩ := id c1
  have hr : ∀ i, zR (f i y) := fun i => by have := c8.2.2.2.2.2.2.1 i y; split at this <;> omega
  refine e_PI_firstChange h1 h2 ?_
  have loop : ∀ (m : Nat) (x : Int), 0 ≤ x → x + m = h.2.1 p 2 → Q (some (.int (zI (fp_first (fun i => f i y ≠ c ∧ (i = 0 ∨ f (i - 1) y = c)) x m)))) h → fx_V l M_PI_firstChange (0, 0) Q 0 0 3 [some (.ref p), some (.int (zI y)), none, some (.int (zI c)), some (.int (zI x))] [] h := by
    intro m
    induction m with
    | zero =>
      intro x hx hm kq
      have hxe : x = h.2.1 p 2 := by omega
      exact w_PI_firstChange_3 h1 h2 ⟨by omega, by omega, fun _ => by rw [← hxe]; exact kq, fun z => by omega⟩
    | succ m ih =>
      intro x hx hm kq
      unfold fp_first at kq
      refine w_PI_firstChange_3 h1 h2 ⟨by omega, by omega, fun z => by omega, fun _ => ?_⟩
      refine m_pixel c1 (by omega) hy ⟨_, rfl, rfl, ?_⟩
      rw [c7]
      refine ⟨hr _, hc, fun z => ?_, fun z => ⟨fun z2 => ?_, fun z2 => ?_⟩⟩
      · rw [if_neg (fun q => q.1 z)] at kq
        exact ih (x + 1) (by omega) (by omega) kq
      · rw [if_pos ⟨z, Or.inl z2⟩] at kq
        exact kq
      · refine m_pixel c1 (by omega) hy ⟨_, rfl, rfl, ?_⟩
        rw [c7]
        refine ⟨hr _, fun z3 => ?_, fun z3 => ?_⟩
        · rw [if_neg (fun q => q.2.elim z2 z3)] at kq
          exact ih (x + 1) (by omega) (by omega) kq
        · rw [if_pos ⟨z, Or.inr z3⟩] at kq
          exact kq
  exact loop _ x hx (by omega) kk
theorem m_packByItself {y : Int} {s : WS} (hS : h.1 = fx_S0 a pp dd) (c : cP h p g w t f) (hg : g = 0) (cw : cW h s) (ok : isW s) (hy : zR y) (cap : tb s + 492 ≤ 16000) (k : ∀ h2, cs h h2 → cW h2 (byI (fun i => f i y) w (w + 1).toNat 0 0 s) → Q none h2) : fx_Mt l M_LI_packByItself (0, 0) [.ref 4, .ref p, .int (zI y)] h Q := by
  obtain ⟨⟨a1, h1⟩, ⟨a2, h2⟩, -⟩ := id c.1
  have hpk := c.2.2.2.2.2.2.2
  have hw1 := hpk.2.1
  have hw2 := hpk.2.2.1
  have r01 : ∀ i, f i y = 0 ∨ f i y = 1 := fun i => by have := hpk.2.2.2.2.2.2.1 i y; rw [if_pos hg] at this; omega
  refine e_LI_packByItself hS h1 h2 ?_
  have loop : ∀ (m d : Nat) (x co st : Int) (s3 : WS) (h3 : fx_H), (w - x).toNat + d ≤ m → (d = 0 → x < w → f x y = co) → 0 ≤ st → st + d ≤ x + 1 → 0 ≤ x → x ≤ w → (co = 0 ∨ co = 1) → isW s3 → (tb s3 : Int) + 12 * ((w - x) + d) ≤ 16000 → cs h h3 → cW h3 s3 → (∀ h2, cs h h2 → cW h2 (byI (fun i => f i y) w m x co s3) → Q none h2) →
      fx_V l M_LI_packByItself (0, 0) Q 0 0 8 [some (.ref 4), some (.ref p), some (.int (zI y)), some (.int (zI x)), some (.int (zI co)), some (.int (zI st)), none] [] h3 := by
    intro m
    induction m with
    | zero =>
      intro d x co st s3 h3 hm hd hst hst2 hx hxw hco ok3 cap3 c3 w3 kq
      have k2 := kq h3 c3 w3
      have c5 := (c.cs c3).2.2.2.2.1
      refine w_LI_packByItself_8 (c3.1.1.trans hS) (by rw [c3.1.1]; exact h1) (by rw [c3.1.1]; exact h2) ?_
      rw [c5]
      exact ⟨by omega, by omega, fun _ => k2, fun _ => ⟨by omega, fun _ => k2, fun z => by omega⟩⟩
    | succ m ih =>
      intro d x co st s3 h3 hm hd hst hst2 hx hxw hco ok3 cap3 c3 w3 kq
      have cc := c.cs c3
      have c5 := cc.2.2.2.2.1
      rw [byI] at kq
      refine w_LI_packByItself_8 (c3.1.1.trans hS) (by rw [c3.1.1]; exact h1) (by rw [c3.1.1]; exact h2) ?_
      rw [c5]
      by_cases hz : w ≤ x
      · rw [if_pos hz] at kq
        have k2 := kq h3 c3 w3
        exact ⟨by omega, by omega, fun _ => k2, fun _ => ⟨by omega, fun _ => k2, fun z => absurd hz z⟩⟩
      · rw [if_neg hz] at kq
        have a1 := fU_R (r := fun i => f i y) (c := co) hxw
        have a2 := fU_at (r := fun i => f i y) (c := co) hxw
        have a3 : d = 0 → x < fU (fun i => f i y) w x co := fun h0 => fU_gt (by omega) (hd h0 (by omega))
        have rc := RC_R (n := fU (fun i => f i y) w x co - x) hco (by omega) (by omega)
        have hl := lg_nn (RC co (fU (fun i => f i y) w x co - x))
        have r9 := r01 (fU (fun i => f i y) w x co)
        have hl12 : lg (RC co (fU (fun i => f i y) w x co - x)) ≤ 12 := by have := rc.2.2; split at this <;> omega
        refine ⟨by omega, by omega, fun z => by omega, fun _ => ⟨by omega, fun z => absurd z hz, fun _ => ?_⟩⟩
        refine m_fUP cc hy hx hxw (by omega) ⟨_, rfl, rfl, ?_⟩
        refine m_runCode (c3.1.1.trans hS) hco (by omega) (by omega) ⟨_, rfl, rfl, ?_⟩
        refine m_code (c3.1.1.trans hS) w3 ok3 rc.1 rc.2.1 hl12 (by omega) fun h4 c4 w4 => ⟨rfl, c4.1.1, ?_⟩
        exact ih 0 _ (1 - co) (st + 1) _ h4 (by omega) (fun _ h1 => by have h9 : f (fU (fun i => f i y) w x co) y ≠ co := a2 h1; omega) (by omega) (by omega) (by omega) (by omega) (by omega) (isW_code ok3) (by rw [tb_code ok3]; omega) (c3.tr c4) w4 kq
  exact loop _ 1 0 0 0 s h (by omega) (fun z => by omega) (by omega) (by omega) (by omega) (by omega) (Or.inl rfl) ok (by omega) cs.rf cw k
theorem m_packByAnother {y ot : Int} {s : WS} (hS : h.1 = fx_S0 a pp dd) (c : cP h p g w t f) (hg : g = 0) (cw : cW h s) (ok : isW s) (hy : zR y) (hot : zR ot) (cap : 2 * (tb s : Int) + cst w (-1) ≤ 32000) (k : ∀ h2, cs h h2 → cW h2 (byA (fun i => f i y) (fun i => f i ot) w (w + 1).toNat (-1) 0 s) → Q none h2) : fx_Mt l M_LI_packByAnother (0, 0) [.ref 4, .ref p, .int (zI y), .int (zI ot)] h Q := by
  obtain ⟨⟨a1, h1⟩, ⟨a2, h2⟩, -⟩ := id c.1
  have hpk := c.2.2.2.2.2.2.2
  have hw1 := hpk.2.1
  have hw2 := hpk.2.2.1
  refine e_LI_packByAnother hS h1 h2 ?_
  have loop : ∀ (m : Nat) (A co st : Int) (s3 : WS) (h3 : fx_H), (w - A).toNat ≤ m → 0 ≤ st → st ≤ A + 1 → -1 ≤ A → A ≤ w → (co = 0 ∨ co = 1) → isW s3 → 2 * (tb s3 : Int) + cst w A ≤ 32000 → cs h h3 → cW h3 s3 → (∀ h2, cs h h2 → cW h2 (byA (fun i => f i y) (fun i => f i ot) w m A co s3) → Q none h2) →
      fx_V l M_LI_packByAnother (0, 0) Q 0 0 9 [some (.ref 4), some (.ref p), some (.int (zI y)), some (.int (zI ot)), some (.int (zI A)), some (.int (zI co)), some (.int (zI st)), none, none, none, none] [] h3 := by
    intro m
    induction m with
    | zero =>
      intro A co st s3 h3 hm hst hst2 hA hAw hco ok3 cap3 c3 w3 kq
      have k2 := kq h3 c3 w3
      have c5 := (c.cs c3).2.2.2.2.1
      refine w_LI_packByAnother_9 (c3.1.1.trans hS) (by rw [c3.1.1]; exact h1) (by rw [c3.1.1]; exact h2) ?_
      rw [c5]
      exact ⟨by omega, by omega, fun _ => k2, fun _ => ⟨by omega, fun _ => k2, fun z => by omega⟩⟩
    | succ m ih =>
      intro A co st s3 h3 hm hst hst2 hA hAw hco ok3 cap3 c3 w3 kq
      have cc := c.cs c3
      have c5 := cc.2.2.2.2.1
      have hS3 := c3.1.1.trans hS
      rw [byA] at kq
      refine w_LI_packByAnother_9 hS3 (by rw [c3.1.1]; exact h1) (by rw [c3.1.1]; exact h2) ?_
      rw [c5]
      by_cases hz : w ≤ A
      · rw [if_pos hz] at kq
        have k2 := kq h3 c3 w3
        exact ⟨by omega, by omega, fun _ => k2, fun _ => ⟨by omega, fun _ => k2, fun z => absurd hz z⟩⟩
      · rw [if_neg hz] at kq
        have hA1 : A + 1 ≤ w := by omega
        have a1 := fU_R (r := fun i => f i y) (c := co) hA1
        have b1 := fC_R (r := fun i => f i ot) (c := co) hA1
        have b2 := fA_R (r := fun i => f i ot) (c := co) b1.2
        have a2 := fA_R (r := fun i => f i y) (c := co) a1.2
        have u0 := fU_at (r := fun i => f i y) (c := co) hA1
        have v0 := fC_at (r := fun i => f i ot) (c := co) hA1
        have a3 := fA_gt (r := fun i => f i y) (c := co) a1.2 u0
        have hcap : 2 * (tb s3 : Int) + (23 * (w - A) + 46) ≤ 32000 := by unfold cst at cap3; rw [if_pos (by omega)] at cap3; exact cap3
        refine ⟨by omega, by omega, fun z => by omega, fun _ => ⟨by omega, fun z => absurd z hz, fun _ => ?_⟩⟩
        refine m_fUP cc hy (by omega) hA1 (by omega) ⟨_, rfl, rfl, ?_⟩
        refine m_fCP cc hot (by omega) hA1 (by omega) ⟨_, rfl, rfl, ?_⟩
        refine m_fAP cc hg hot (by omega) b1.2 hco v0 ⟨_, rfl, rfl, ?_⟩
        generalize fU (fun i => f i y) w (A + 1) co = A1 at *
        generalize fC (fun i => f i ot) w (A + 1) co = B1 at *
        generalize fA (fun i => f i ot) w B1 co = B2 at *
        have two : ¬ B2 < A1 → ¬ (B1 - 3 ≤ A1 ∧ A1 ≤ B1 + 3) → fx_Mt l M_PI_firstUnlike (0, 0) [.ref p, .int (zI y), .int (zI (A1 + 1)), .int (zI (1 - co))] h3 (fun v h20 => ∃ r22 : Int, v = some (.int (zI r22)) ∧ h20.1 = h3.1 ∧ fx_Mt l M_BY_appendCode (0, 0) [.ref 1, .int (zI (fx_tMD.getD 8 0))] h20 (fun v h23 => v = none ∧ h23.1 = h20.1 ∧ fx_Mt l M_LI_runCode (0, 0) [.int (zI (A1 - (if A < 0 then 0 else A))), .int (zI co)] h23 (fun v h25 => ∃ r27 : Int, v = some (.int (zI r27)) ∧ h25.1 = h23.1 ∧ fx_Mt l M_BY_appendCode (0, 0) [.ref 1, .int (zI r27)] h25 (fun v h28 => v = none ∧ h28.1 = h25.1 ∧ fx_Mt l M_LI_runCode (0, 0) [.int (zI (r22 - A1)), .int (zI (1 - co))] h28 (fun v h30 => ∃ r32 : Int, v = some (.int (zI r32)) ∧ h30.1 = h28.1 ∧ fx_Mt l M_BY_appendCode (0, 0) [.ref 1, .int (zI r32)] h30 (fun v h33 => v = none ∧ h33.1 = h30.1 ∧ (fx_V l M_LI_packByAnother (0, 0) Q 0 0 9 [some (.ref 4), some (.ref p), some (.int (zI y)), some (.int (zI ot)), some (.int (zI r22)), some (.int (zI co)), some (.int (zI (st + 1))), none, none, none, none] [] h33))))))) := by
          intro n1 n2
          rw [if_neg n1, if_neg n2] at kq
          refine m_fAP cc hg hy (by omega) a1.2 hco u0 ⟨_, rfl, rfl, ?_⟩
          generalize fA (fun i => f i y) w A1 co = A2 at *
          have ha0 : 0 ≤ (if A < 0 then 0 else A) ∧ (if A < 0 then 0 else A) ≤ A + 1 := by split <;> omega
          generalize (if A < 0 then 0 else A) = z0 at *
          have rc := RC_R (n := A1 - z0) hco (by omega) (by omega)
          have rd := RC_R (c := 1 - co) (n := A2 - A1) (by omega) (by omega) (by omega)
          have hl := lg_nn (RC co (A1 - z0))
          have hl2 := lg_nn (RC (1 - co) (A2 - A1))
          have hsum : lg (RC co (A1 - z0)) + lg (RC (1 - co) (A2 - A1)) ≤ 20 ∧ lg (RC co (A1 - z0)) ≤ 12 ∧ lg (RC (1 - co) (A2 - A1)) ≤ 12 := by
            have e1 := rc.2.2
            have e2 := rd.2.2
            rcases hco with rfl | rfl
            · rw [if_pos rfl] at e1; rw [if_neg (by omega)] at e2; omega
            · rw [if_neg (by omega)] at e1; rw [if_pos (show (1 : Int) - 1 = 0 by omega)] at e2; omega
          have e9 : fx_tMD.getD 8 0 = 9 := rfl
          rw [e9]
          refine m_code hS3 w3 ok3 (by omega) (by omega) (by rw [lg_9]; omega) (by rw [lg_9]; omega) fun h4 c4 w4 => ⟨rfl, c4.1.1, ?_⟩
          refine m_runCode (c4.1.1.trans hS3) hco (by omega) (by omega) ⟨_, rfl, rfl, ?_⟩
          refine m_code (c4.1.1.trans hS3) w4 (isW_code ok3) rc.1 rc.2.1 (by omega) (by rw [tb_code ok3, lg_9]; omega) fun h5 c5 w5 => ⟨rfl, c5.1.1, ?_⟩
          refine m_runCode (c5.1.1.trans (c4.1.1.trans hS3)) (by omega) (by omega) (by omega) ⟨_, rfl, rfl, ?_⟩
          refine m_code (c5.1.1.trans (c4.1.1.trans hS3)) w5 (isW_code (isW_code ok3)) rd.1 rd.2.1 (by omega) (by rw [tb_code (isW_code ok3), tb_code ok3, lg_9]; omega) fun h6 c6 w6 => ⟨rfl, c6.1.1, ?_⟩
          refine ih A2 co (st + 1) _ h6 (by omega) (by omega) (by omega) (by omega) (by omega) hco (isW_code (isW_code (isW_code ok3))) ?_ (((c3.tr c4).tr c5).tr c6) w6 kq
          rw [tb_code (isW_code (isW_code ok3)), tb_code (isW_code ok3), tb_code ok3, lg_9]
          unfold cst
          split
          · have := a3 (by omega); omega
          · omega
        refine ⟨by omega, by omega, fun z => ⟨by omega, fun z2 => two (by omega) (by omega), fun z2 => ⟨by omega, fun z3 => two (by omega) (by omega), fun z3 => ⟨by omega, by omega, ?_⟩⟩⟩, fun z => ?_⟩
        · rw [if_neg (by omega), if_pos ⟨by omega, by omega⟩] at kq
          have md := MD_all (A1 - B1 + 3).toNat (by omega)
          have hl := lg_nn (fx_tMD.getD (A1 - B1 + 3).toNat 0)
          refine m_code hS3 w3 ok3 md.1 md.2.1 (by omega) (by omega) fun h4 c4 w4 => ⟨rfl, c4.1.1, ?_⟩
          refine ih A1 (1 - co) (st + 1) _ h4 (by omega) (by omega) (by omega) (by omega) (by omega) (by omega) (isW_code ok3) ?_ (c3.tr c4) w4 kq
          rw [tb_code ok3]
          unfold cst
          split <;> omega
        · rw [if_pos (by omega)] at kq
          have e17 : fx_tMD.getD 7 0 = 17 := rfl
          rw [e17]
          refine m_code hS3 w3 ok3 (by omega) (by omega) (by rw [lg_17]; omega) (by rw [lg_17]; omega) fun h4 c4 w4 => ⟨rfl, c4.1.1, ?_⟩
          refine ih B2 co (st + 1) _ h4 (by omega) (by omega) (by omega) (by omega) (by omega) hco (isW_code ok3) ?_ (c3.tr c4) w4 kq
          rw [tb_code ok3, lg_17]
          unfold cst
          split <;> omega
  exact loop _ (-1) 0 0 s h (by omega) (by omega) (by omega) (by omega) (by omega) (Or.inl rfl) ok cap cs.rf cw k
end LI
