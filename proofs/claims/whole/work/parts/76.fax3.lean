/-! the reference: rows are brought, a strip is written -/
abbrev bA : Nat → Prop := fun j => j = 36 ∨ j = 37
abbrev bF : Nat → Prop := fun _ => False
abbrev xA : Nat → Prop := fun j => j = 33 ∨ (36 ≤ j ∧ j ≤ 40)
abbrev xF : Nat → Prop := fun k => k = 5 ∨ k = 18 ∨ k = 19 ∨ k = 27 ∨ k = 28
theorem mo.x {h h2 : fx_H} (m : mo oA oF h h2) : mo xA xF h h2 := m.mono (fun j z => by omega) (fun k z => by omega)
theorem mo.bx {h h2 : fx_H} (m : mo bA bF h h2) : mo xA xF h h2 := m.mono (fun j z => by omega) (fun k z => z.elim)
section GX
variable {l : Launch} {Q : Option Value → fx_H → Prop} {h : fx_H} {a : Nat → Nat} {pp dd : Nat} {g w t : Int} {f : Int → Int → Int} {mk : Int} {r o : Int → Int}
theorem m_bring {y fi : Int} (hS : h.1 = fx_S0 a pp dd) (c : mP h g w t f) (hy : 0 ≤ y) (hyt : y < t) (hfi : fi = 0 ∨ fi = 1) (hn : fi = 0 → mN h (fun i => f i (y - 1)) w) (k : ∀ h2, mo bA bF h h2 → mN h2 (fun i => f i y) w → mV h2 (fun i => f i (if fi = 1 then -1 else y - 1)) w → Q none h2) : fx_Mt l M_MO_bring (0, 0) [.ref 31, .int (zI y), .int (zI fi)] h Q := by
  obtain ⟨c1, c2, c3, c4, hg, hw1, hw2, ht1, ht2, hg1, hf, hf0⟩ := c
  refine e_MO_bring hS ?_
  have loop : ∀ (m : Nat) (x : Int) (h3 : fx_H), 0 ≤ x → x + m = w → mo bA bF h h3 → (∀ i : Int, 0 ≤ i → i < x → h3.2.2.1 36 i.toNat = f i y ∧ h3.2.2.1 37 i.toNat = f i (if fi = 1 then -1 else y - 1)) → (fi = 0 → ∀ i : Int, x ≤ i → i < w → h3.2.2.1 36 i.toNat = f i (y - 1)) → fx_V l M_MO_bring (0, 0) Q 0 0 2 [some (.ref 31), some (.int (zI y)), some (.int (zI fi)), some (.int (zI x))] [] h3 := by
    intro m
    induction m with
    | zero =>
      intro x h3 hx hm m3 d3 e3
      have hw3 : h3.2.1 31 15 = w := (m3.2 15 (fun z => z)).trans c2
      exact w_MO_bring_2 (m3.S.trans hS) ⟨by omega, by omega, fun _ => k h3 m3 (fun i h1 h2 => (d3 i h1 (by omega)).1) (fun i h1 h2 => (d3 i h1 (by omega)).2), fun z => by omega⟩
    | succ m ih =>
      intro x h3 hx hm m3 d3 e3
      have hw3 : h3.2.1 31 15 = w := (m3.2 15 (fun z => z)).trans c2
      have hq := fp_mul hx (show x < w by omega) hy hyt hw2 ht2
      rw [Int.mul_comm y w] at hq
      have hp : h3.2.2.1 32 (w * y + x).toNat = f x y := by rw [m3.1.2.2.1 32 _ (by omega)]; exact c4 x y hx (by omega) hy hyt
      have next : ∀ u : Int, u = f x (if fi = 1 then -1 else y - 1) → fx_V l M_MO_bring (0, 0) Q 0 0 2 [some (.ref 31), some (.int (zI y)), some (.int (zI fi)), some (.int (zI (x + 1)))] [] (fx_uA (fx_uA h3 37 x.toNat u) 36 x.toNat (f x y)) := by
        intro u hu
        refine ih (x + 1) _ (by omega) (by omega) (m3.tr ((mo.uA (by omega)).tr (mo.uA (by omega)))) (fun i h1 h2 => ?_) (fun z i h1 h2 => ?_)
        · by_cases hi : i = x
          · subst hi
            exact ⟨uA_s _ _ _ _, by rw [uA_n _ _ (by omega), uA_s, hu]⟩
          · rw [uA_n _ _ (by omega), uA_n _ _ (by omega), uA_n _ _ (by omega), uA_n _ _ (by omega)]
            exact d3 i h1 (by omega)
        · rw [uA_n _ _ (by omega), uA_n _ _ (by omega)]
          exact e3 z i (by omega) h2
      refine w_MO_bring_2 (m3.S.trans hS) ?_
      rw [hw3, hp]
      refine ⟨by omega, by omega, fun z => by omega, fun _ => ⟨by omega, fun z => ⟨by omega, by omega, by omega, by omega, hq.1, hq.2, by omega, by omega, next _ ?_⟩, fun z => ⟨by omega, by omega, hq.1, hq.2, by omega, by omega, next _ ?_⟩⟩⟩
      · rw [if_neg (by omega)]; exact e3 z x (Int.le_refl _) (by omega)
      · rw [if_pos (by omega)]; exact (hf0 _ _ (by omega)).symm
  exact loop w.toNat 0 h (Int.le_refl _) (by omega) mo.rf (fun i h1 h2 => by omega) (fun z i h1 h2 => hn z i h1 h2)
theorem m_outFax {x sc : Int} {s : WS} {n : Nat} (hS : h.1 = fx_S0 a pp dd) (c : mP h g w t f) (hg : g = 0) (mc : mC h) (hsc : h.2.1 31 12 = sc) (hsc2 : sc = 3 ∨ sc = 4) (mw : mW h s) (ok : isW s) (hx : 0 ≤ x) (hn : x + n ≤ t) (cap : 2 * (tb s : Int) + n * 1015 + 64 ≤ 32000) (k : ∀ h2, mo xA xF h h2 → mW h2 (faxW (if sc = 3 then 1 else 0) w f x n x s) → Q none h2) : fx_Mt l M_MO_outFax (0, 0) [.ref 31, .int (zI x), .int (zI (n : Nat))] h Q := by
  have hpk := c.2.2.2.2
  have hw1 := hpk.2.1
  have hw2 := hpk.2.2.1
  have ht4 : t ≤ 24 := hpk.2.2.2.2.1
  have hc := cst_R hw1 hw2
  have r01 := fun y i => hpk.r01 hg i y
  refine e_MO_outFax hS ?_
  have loop : ∀ (m : Nat) (z : Int) (s3 : WS) (h3 : fx_H), z + m = x + n → x ≤ z → isW s3 → 2 * (tb s3 : Int) + m * 1015 + 64 ≤ 32000 → mo xA xF h h3 → mW h3 s3 → (¬ z = x → mN h3 (fun i => f i (z - 1)) w) → (∀ h2, mo xA xF h h2 → mW h2 (faxW (if sc = 3 then 1 else 0) w f x m z s3) → Q none h2) →
      fx_V l M_MO_outFax (0, 0) Q 0 0 2 [some (.ref 31), some (.int (zI x)), some (.int (zI (n : Nat))), some (.int (zI z))] [] h3 := by
    intro m
    induction m with
    | zero =>
      intro z s3 h3 hz hxz ok3 cap3 c3 w3 n3 kq
      have hS3 := c3.S.trans hS
      have hm3 : h3.2.1 31 12 = sc := (c3.2 12 (by omega)).trans hsc
      rw [faxW] at kq
      refine w_MO_outFax_2 hS3 ⟨by omega, by omega, fun _ => ⟨by omega, fun z0 => ?_, fun z0 => ?_⟩, fun z => by omega⟩
      · rw [if_neg (by rw [if_pos (by omega)]; omega)] at kq
        exact m_outRest hS3 w3 ok3 (by omega) fun h4 c4 w4 => ⟨rfl, c4.S, kq h4 (c3.tr c4.x) w4⟩
      · rw [if_pos (by rw [if_neg (by omega)])] at kq
        refine m_outBits hS3 w3 ok3 (by omega) (by omega) (by omega) (by omega) fun h4 c4 w4 => ⟨rfl, c4.S, ?_⟩
        refine m_outBits (c4.S.trans hS3) w4 (isW_bits _ ok3) (by omega) (by omega) (by omega) (by rw [tb_bits _ ok3]; omega) fun h5 c5 w5 => ⟨rfl, c5.S, ?_⟩
        exact m_outRest (c5.S.trans (c4.S.trans hS3)) w5 (isW_bits _ (isW_bits _ ok3)) (by rw [tb_bits _ (isW_bits _ ok3), tb_bits _ ok3]; omega) fun h6 c6 w6 => ⟨rfl, c6.S, kq h6 (((c3.tr c4.x).tr c5.x).tr c6.x) w6⟩
    | succ m ih =>
      intro z s3 h3 hz hxz ok3 cap3 c3 w3 n3 kq
      have hS3 := c3.S.trans hS
      rw [faxW] at kq
      rw [Int.natCast_succ, Int.add_mul] at cap3
      have fR := faxL_R (mk := if sc = 3 then 1 else 0) (top := x) (y := z) (s := s3) hpk hg ok3
      have next : ∀ h4, mo xA xF h h4 → mN h4 (fun i => f i z) w → mW h4 (faxL (if sc = 3 then 1 else 0) w f x z s3) → fx_V l M_MO_outFax (0, 0) Q 0 0 2 [some (.ref 31), some (.int (zI x)), some (.int (zI (n : Nat))), some (.int (zI (z + 1)))] [] h4 := fun h4 c4 n4 w4 => ih (z + 1) _ h4 (by omega) (by omega) fR.1 (by omega) c4 w4 (fun _ => by rw [show z + 1 - 1 = z by omega]; exact n4) kq
      have tail : ∀ h16, mo xA xF h h16 → mN h16 (fun i => f i z) w → mV h16 (fun i => f i (if z = x then -1 else z - 1)) w → mW h16 s3 →
          zR (h16.2.1 31 12) ∧ ((¬ (h16.2.1 31 12) = 3 → ((¬ (h16.2.1 31 12) = 3 → fx_Mt l M_MO_outBy (0, 0) [.ref 31] h16 (fun v h21 => v = none ∧ h21.1 = h16.1 ∧ (fx_V l M_MO_outFax (0, 0) Q 0 0 2 [some (.ref 31), some (.int (zI x)), some (.int (zI (n : Nat))), some (.int (zI (z + 1)))] [] h21))) ∧ ((h16.2.1 31 12) = 3 → 0 ≤ (z - x) ∧ zR (z - x) ∧ zR ((z - x) % 4) ∧ ((¬ ((z - x) % 4) = 0 → fx_Mt l M_MO_outBy (0, 0) [.ref 31] h16 (fun v h27 => v = none ∧ h27.1 = h16.1 ∧ (fx_V l M_MO_outFax (0, 0) Q 0 0 2 [some (.ref 31), some (.int (zI x)), some (.int (zI (n : Nat))), some (.int (zI (z + 1)))] [] h27))) ∧ (((z - x) % 4) = 0 → fx_Mt l M_MO_outItself (0, 0) [.ref 31] h16 (fun v h29 => v = none ∧ h29.1 = h16.1 ∧ (fx_V l M_MO_outFax (0, 0) Q 0 0 2 [some (.ref 31), some (.int (zI x)), some (.int (zI (n : Nat))), some (.int (zI (z + 1)))] [] h29))))))) ∧ ((h16.2.1 31 12) = 3 → fx_Mt l M_MO_outBits (0, 0) [.ref 31, .int (zI 1), .int (zI 12)] h16 (fun v h31 => v = none ∧ h31.1 = h16.1 ∧ 0 ≤ (z - x) ∧ zR (z - x) ∧ zR ((z - x) % 4) ∧ ((¬ ((z - x) % 4) = 0 → fx_Mt l M_MO_outBit (0, 0) [.ref 31, .int (zI 0)] h31 (fun v h37 => v = none ∧ h37.1 = h31.1 ∧ zR (h37.2.1 31 12) ∧ ((¬ (h37.2.1 31 12) = 3 → fx_Mt l M_MO_outBy (0, 0) [.ref 31] h37 (fun v h41 => v = none ∧ h41.1 = h37.1 ∧ (fx_V l M_MO_outFax (0, 0) Q 0 0 2 [some (.ref 31), some (.int (zI x)), some (.int (zI (n : Nat))), some (.int (zI (z + 1)))] [] h41))) ∧ ((h37.2.1 31 12) = 3 → 0 ≤ (z - x) ∧ ((¬ ((z - x) % 4) = 0 → fx_Mt l M_MO_outBy (0, 0) [.ref 31] h37 (fun v h45 => v = none ∧ h45.1 = h37.1 ∧ (fx_V l M_MO_outFax (0, 0) Q 0 0 2 [some (.ref 31), some (.int (zI x)), some (.int (zI (n : Nat))), some (.int (zI (z + 1)))] [] h45))) ∧ (((z - x) % 4) = 0 → fx_Mt l M_MO_outItself (0, 0) [.ref 31] h37 (fun v h47 => v = none ∧ h47.1 = h37.1 ∧ (fx_V l M_MO_outFax (0, 0) Q 0 0 2 [some (.ref 31), some (.int (zI x)), some (.int (zI (n : Nat))), some (.int (zI (z + 1)))] [] h47)))))))) ∧ (((z - x) % 4) = 0 → fx_Mt l M_MO_outBit (0, 0) [.ref 31, .int (zI 1)] h31 (fun v h49 => v = none ∧ h49.1 = h31.1 ∧ zR (h49.2.1 31 12) ∧ ((¬ (h49.2.1 31 12) = 3 → fx_Mt l M_MO_outBy (0, 0) [.ref 31] h49 (fun v h53 => v = none ∧ h53.1 = h49.1 ∧ (fx_V l M_MO_outFax (0, 0) Q 0 0 2 [some (.ref 31), some (.int (zI x)), some (.int (zI (n : Nat))), some (.int (zI (z + 1)))] [] h53))) ∧ ((h49.2.1 31 12) = 3 → 0 ≤ (z - x) ∧ ((¬ ((z - x) % 4) = 0 → fx_Mt l M_MO_outBy (0, 0) [.ref 31] h49 (fun v h57 => v = none ∧ h57.1 = h49.1 ∧ (fx_V l M_MO_outFax (0, 0) Q 0 0 2 [some (.ref 31), some (.int (zI x)), some (.int (zI (n : Nat))), some (.int (zI (z + 1)))] [] h57))) ∧ (((z - x) % 4) = 0 → fx_Mt l M_MO_outItself (0, 0) [.ref 31] h49 (fun v h59 => v = none ∧ h59.1 = h49.1 ∧ (fx_V l M_MO_outFax (0, 0) Q 0 0 2 [some (.ref 31), some (.int (zI x)), some (.int (zI (n : Nat))), some (.int (zI (z + 1)))] [] h59)))))))))))) := by
        intro h16 c16 n16 v16 w16
        have hS16 := c16.S.trans hS
        have hm : h16.2.1 31 12 = sc := (c16.2 12 (by omega)).trans hsc
        have hw16 : h16.2.1 31 15 = w := (c16.2 15 (by omega)).trans c.2.1
        have mc16 := mc.mo c16 (by omega)
        refine ⟨by omega, fun z3 => ⟨fun _ => ?_, fun z4 => absurd z4 z3⟩, fun z3 => ?_⟩
        · refine m_outBy hS16 hw16 hw1 hw2 mc16 n16 v16 (r01 z) (r01 _) w16 ok3 (by omega) fun h4 c4 w4 => ⟨rfl, c4.S, next h4 (c16.tr c4.x) (n16.mo c4 (by omega)) ?_⟩
          unfold faxL
          rw [if_pos (by rw [if_neg (by omega)])]; exact w4
        · refine m_outBits hS16 w16 ok3 (by omega) (by omega) (by omega) (by omega) fun h4 c4 w4 => ⟨rfl, c4.S, by omega, by omega, by omega, fun z4 => ?_, fun z4 => ?_⟩
          · refine m_outBit (c4.S.trans hS16) w4 (isW_bits _ ok3) (Or.inl rfl) (by rw [tb_bits _ ok3]; omega) fun h5 c5 w5 => ⟨rfl, c5.S, ?_⟩
            have c45 := c4.tr c5
            have hm5 : h5.2.1 31 12 = sc := (c45.2 12 (by omega)).trans hm
            refine ⟨by omega, fun z5 => by omega, fun _ => ⟨by omega, fun _ => ?_, fun z6 => absurd z6 z4⟩⟩
            refine m_outBy (c45.S.trans hS16) ((c45.2 15 (by omega)).trans hw16) hw1 hw2 (mc16.mo c45 (by omega)) (n16.mo c45 (by omega)) (v16.mo c45 (by omega)) (r01 z) (r01 _) w5 (isW_bit (isW_bits _ ok3) (Or.inl rfl)) (by rw [tb_bit (isW_bits _ ok3).2.2, tb_bits _ ok3]; omega) fun h6 c6 w6 => ⟨rfl, c6.S, next h6 ((c16.tr c45.x).tr c6.x) ((n16.mo c45 (by omega)).mo c6 (by omega)) ?_⟩
            unfold faxL
            rw [if_neg (by rw [if_pos (by omega)]; omega), if_neg z4]; exact w6
          · refine m_outBit (c4.S.trans hS16) w4 (isW_bits _ ok3) (Or.inr rfl) (by rw [tb_bits _ ok3]; omega) fun h5 c5 w5 => ⟨rfl, c5.S, ?_⟩
            have c45 := c4.tr c5
            have hm5 : h5.2.1 31 12 = sc := (c45.2 12 (by omega)).trans hm
            refine ⟨by omega, fun z5 => by omega, fun _ => ⟨by omega, fun z6 => absurd z4 z6, fun _ => ?_⟩⟩
            refine m_outItself (c45.S.trans hS16) ((c45.2 15 (by omega)).trans hw16) hw1 hw2 (mc16.mo c45 (by omega)) (n16.mo c45 (by omega)) (r01 z) w5 (isW_bit (isW_bits _ ok3) (Or.inr rfl)) (by rw [tb_bit (isW_bits _ ok3).2.2, tb_bits _ ok3]; omega) fun h6 c6 w6 => ⟨rfl, c6.S, next h6 ((c16.tr c45.x).tr c6.x) ((n16.mo c45 (by omega)).mo c6 (by omega)) ?_⟩
            unfold faxL
            rw [if_neg (by rw [if_pos (by omega)]; omega), if_pos z4]; exact w6
      have cm := c.mo c3 (by omega) ⟨by omega, by omega, by omega⟩
      refine w_MO_outFax_2 hS3 ⟨by omega, by omega, fun z => by omega, fun _ => ⟨by omega, fun ze => ?_, fun ze => ?_⟩⟩
      · refine m_bring hS3 cm (by omega) (by omega) (Or.inl rfl) (fun _ => n3 ze) fun h4 c4 n4 v4 => ⟨rfl, c4.S, tail h4 (c3.tr c4.bx) n4 ?_ (w3.mo c4 (by omega) (fun z => z) (fun z => z) (fun z => z))⟩
        rw [if_neg ze]; exact v4
      · refine m_bring hS3 cm (by omega) (by omega) (Or.inr rfl) (fun z => by omega) fun h4 c4 n4 v4 => ⟨rfl, c4.S, tail h4 (c3.tr c4.bx) n4 ?_ (w3.mo c4 (by omega) (fun z => z) (fun z => z) (fun z => z))⟩
        rw [if_pos ze]; exact v4
  exact loop n x s h rfl (Int.le_refl _) ok cap mo.rf mw (fun z => absurd rfl z) k
/-- a strip -/
def wst (sc g w : Int) (f : Int → Int → Int) (x : Int) (n : Nat) (L : List Int) : List Int :=
  if sc = 1 then L ++ sb g w f x n else if sc = 32773 then L ++ runs g w f x n else if sc = 5 then (tabW (fun i => (sb g w f x n).getD i 0) (n * (rbn g w).toNat) (L, [])).1 else (faxW (if sc = 3 then 1 else 0) w f x n x (L, [])).1
def sOK (sc g : Int) : Prop := (sc = 1 ∨ sc = 32773 ∨ sc = 5 ∨ sc = 3 ∨ sc = 4) ∧ (sc = 3 ∨ sc = 4 → g = 0)
def isB (L : List Int) : Prop := ∀ b ∈ L, 0 ≤ b ∧ b < 256
theorem sb_isB (h : pOK g w t f) : ∀ (n : Nat) (x : Int), isB (sb g w f x n)
  | 0, x => by intro b hb; simp [sb] at hb
  | n + 1, x => by
    intro b hb
    rw [sb] at hb
    rcases List.mem_append.mp hb with hb | hb
    · unfold rowb at hb
      obtain ⟨i, -, rfl⟩ := List.mem_map.mp hb
      exact h.byte _ _
    · exact sb_isB h n (x + 1) b hb
theorem isB.app {L M : List Int} (h1 : isB L) (h2 : isB M) : isB (L ++ M) := fun b hb => by
  rcases List.mem_append.mp hb with hb | hb
  · exact h1 b hb
  · exact h2 b hb
theorem isB.get {L : List Int} (h1 : isB L) (i : Nat) : 0 ≤ L.getD i 0 ∧ L.getD i 0 < 256 := by
  rw [List.getD_eq_getElem?_getD]
  by_cases hi : i < L.length
  · rw [List.getElem?_eq_getElem hi]; exact h1 _ (List.getElem_mem hi)
  · rw [List.getElem?_eq_none (by omega)]; exact ⟨by decide, by decide⟩
theorem encR_isB {r : Int → Int} {n : Int} (hr : ∀ i, 0 ≤ r i ∧ r i < 256) (hn : n ≤ 20) : ∀ (k : Nat) (b : Int), (n - b).toNat ≤ k → 0 ≤ b → isB (encR r n b)
  | 0, b, h, _ => by rw [encR_end (by omega)]; intro x hx; simp at hx
  | k + 1, b, h, h0 => by
    by_cases hb : n ≤ b
    · rw [encR_end hb]; intro x hx; simp at hx
    · by_cases hs : 1 < eS r n b - b
      · have h1 := eS_R (r := r) (show b < n by omega)
        have ih := encR_isB hr hn k (eS r n b) (by omega) (by omega)
        rw [encR_same (by omega) hs]
        intro x hx
        rcases List.mem_cons.mp hx with rfl | hx
        · omega
        · rcases List.mem_cons.mp hx with rfl | hx
          · exact hr b
          · exact ih x hx
      · have h1 := eD_gt (r := r) (show b < n by omega) hs
        have ih := encR_isB hr hn k (eD r (n - 1 - b).toNat b) (by omega) (by omega)
        rw [encR_diff (by omega) hs]
        intro x hx
        rcases List.mem_cons.mp hx with rfl | hx
        · omega
        · rcases List.mem_append.mp hx with hx | hx
          · unfold seg at hx
            obtain ⟨i, -, rfl⟩ := List.mem_map.mp hx
            exact hr _
          · exact ih x hx
theorem runs_isB (h : pOK g w t f) : ∀ (n : Nat) (x : Int), isB (runs g w f x n)
  | 0, x => by intro b hb; simp [runs] at hb
  | n + 1, x => by
    have := h.rb
    rw [runs]
    exact (encR_isB (fun i => h.byte x i) (by omega) _ 0 (Nat.le_refl _) (by omega)).app (runs_isB h n (x + 1))
theorem tabE_R {B : Nat → Int} : ∀ (m i n : Nat) (D1 D2 : Nat → Int) (e since : Int) (s : WS), isW s → isW (tabE B m i n D1 D2 e since s) ∧ tb (tabE B m i n D1 D2 e since s) ≤ tb s + 11 * (m + 2)
  | 0, i, n, D1, D2, e, since, s, ok => by
    have d1 := dg_R (since + 1)
    have d2 := dg_R (since + 1 + 1)
    rw [tabE]
    refine ⟨isW_bits _ (isW_bits _ ok), ?_⟩
    rw [tb_bits _ (isW_bits _ ok), tb_bits _ ok]; omega
  | m + 1, i, n, D1, D2, e, since, s, ok => by
    have d1 := dg_R (since + 1)
    rw [tabE]
    split
    · have := tabE_R (B := B) m (i + 1) (n + 1) (du D1 n e) (du D2 n (B i)) (B i) (since + 1) (wbits s e (dg (since + 1)).toNat) (isW_bits _ ok)
      rw [tb_bits _ ok] at this
      exact ⟨this.1, by omega⟩
    · have := tabE_R (B := B) m (i + 1) n D1 D2 (fnd D1 D2 e (B i) n) since s ok
      exact ⟨this.1, by omega⟩
theorem tabW_R {B : Nat → Int} {N : Nat} {s : WS} (hN : 1 ≤ N) (ok : isW s) : isW (tabW B N s) ∧ (tabW B N s).2 = [] ∧ tb (tabW B N s) ≤ tb s + 9 + 11 * (N + 1) + 7 := by
  unfold tabW
  have := tabE_R (B := B) (N - 1) 1 0 (fun _ => 0) (fun _ => 0) (B 0) 0 (wbits s 256 9) (isW_bits _ ok)
  rw [tb_bits _ ok] at this
  have h2 := tb_rest this.1.2.2
  exact ⟨isW_rest this.1, rest_nil _, by omega⟩
theorem isW_nil {L : List Int} (h : isB L) : isW (L, []) := ⟨h, fun b hb => by simp at hb, by simp⟩
theorem wst_R {sc x : Int} {n : Nat} {L : List Int} (hp : pOK g w t f) (hs : sOK sc g) (hn1 : 1 ≤ n) (hB : isB L) : isB (wst sc g w f x n L) ∧ (wst sc g w f x n L).length ≤ L.length + 68 * n := by
  have hrb := hp.rb
  have hrn : (rbn g w).toNat ≤ 20 := by omega
  have hm : n * (rbn g w).toNat ≤ n * 20 := Nat.mul_le_mul_left _ hrn
  have hm1 : 1 ≤ n * (rbn g w).toNat := Nat.mul_pos (by omega) (by omega)
  unfold wst
  split
  · exact ⟨hB.app (sb_isB hp _ _), by rw [List.length_append, sb_len]; omega⟩
  · split
    · have h1 := runs_len hp n x
      have h2 : n * (2 * (rbn g w).toNat) ≤ n * 40 := Nat.mul_le_mul_left _ (by omega)
      exact ⟨hB.app (runs_isB hp _ _), by rw [List.length_append]; omega⟩
    · split
      · have := tabW_R (B := fun i => (sb g w f x n).getD i 0) hm1 (isW_nil hB)
        refine ⟨this.1.1, ?_⟩
        have h2 := this.2.2
        unfold tb at h2
        rw [this.2.1] at h2
        simp only [List.length_nil, Nat.add_zero] at h2
        omega
      · have hg : g = 0 := hs.2 (by have := hs.1; omega)
        have := faxW_R (mk := if sc = 3 then 1 else 0) (top := x) hp hg n x (L, []) (isW_nil hB)
        refine ⟨this.1.1, ?_⟩
        have h2 := this.2.2
        unfold tb at h2
        rw [this.2.1] at h2
        simp only [List.length_nil, Nat.add_zero] at h2
        omega
end GX
