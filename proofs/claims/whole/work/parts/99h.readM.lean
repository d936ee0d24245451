/-! the reference's read -/
abbrev jA0 : Nat → Prop := fun j => j = 34 ∨ (36 ≤ j ∧ j ≤ 40) ∨ (43 ≤ j ∧ j ≤ 46)
abbrev jF0 : Nat → Prop := fun k => k = 0 ∨ (11 ≤ k ∧ k ≤ 16) ∨ (20 ≤ k ∧ k ≤ 22) ∨ k = 27 ∨ k = 28
abbrev jA : Nat → Prop := fun j => j = 32 ∨ j = 34 ∨ (36 ≤ j ∧ j ≤ 40) ∨ (43 ≤ j ∧ j ≤ 46)
abbrev jF : Nat → Prop := fun k => k ≤ 3 ∨ (7 ≤ k ∧ k ≤ 16) ∨ (20 ≤ k ∧ k ≤ 22) ∨ k = 27 ∨ k = 28
section MR
variable {l : Launch} {Q : Option Value → fx_H → Prop} {h : fx_H} {a : Nat → Nat} {pp dd : Nat} {L : List Int} {b b0 : Int}
theorem mo.j {h h2 : fx_H} (m : mo jA0 jF0 h h2) : mo jA jF h h2 := m.mono (fun j q => by omega) (fun k q => by omega)
theorem mTk_mj {PA PF : Nat → Prop} {h h2 : fx_H} {k : Nat} {q : Int} (t : mTk h L b k q) (m : mo PA PF h h2) (h1 : ¬ PA 43) (h3 : ¬ PA 44) (h4 : ¬ PA 45) (h5 : ¬ PA 46) : mTk h2 L b k q := ⟨by rw [m.1.2.2.1 43 k (by rintro (z | z); omega; exact h1 z)]; exact t.1, by rw [m.1.2.2.1 44 k (by rintro (z | z); omega; exact h3 z)]; exact t.2.1, by rw [m.1.2.2.2 45 k (by rintro (z | z); omega; exact h4 z)]; exact t.2.2.1, by rw [m.1.2.2.2 46 k (by rintro (z | z); omega; exact h5 z)]; exact t.2.2.2⟩
theorem mT9_mj {PA PF : Nat → Prop} {h h2 : fx_H} {n : Nat} (t : mT9 h L b n) (m : mo PA PF h h2) (h1 : ¬ PA 43) (h3 : ¬ PA 44) (h4 : ¬ PA 45) (h5 : ¬ PA 46) : mT9 h2 L b n := fun k hk => ⟨fun z => by rw [m.1.2.2.1 43 k (by rintro (z | z); omega; exact h1 z)]; exact (t k hk).1 z, fun z => mTk_mj ((t k hk).2 z) m h1 h3 h4 h5⟩
/-- the pixels are taken over -/
theorem v_read234 {w t s : Int} {f : Int → Int → Int} (hS : h.1 = fx_S0 a pp dd) (hw : h.2.1 31 15 = w) (ht : h.2.1 31 16 = t) (hw1 : 1 ≤ w) (hw2 : w ≤ 40) (ht1 : 1 ≤ t) (ht2 : t ≤ 24) (hb01 : h.2.1 31 11 = 0 ∨ h.2.1 31 11 = 1) (mg : mG h w f t) (k : ∀ h2, mo (fun j => j = 32) (fun k => 7 ≤ k ∧ k ≤ 10) h h2 → (∀ x y, 0 ≤ x → x < w → 0 ≤ y → y < t → h2.2.2.1 32 (w * y + x).toNat = f x y) → h2.2.1 31 7 = h.2.1 31 12 → h2.2.1 31 8 = h.2.1 31 11 → h2.2.1 31 9 = h.2.1 31 13 → h2.2.1 31 10 = s → Q (some (.int (zI s))) h2) : fx_V l M_MO_read (0, 0) Q 0 0 234 [some (.ref 31), some (.int (zI s)), some (.int (zI 0))] [] h := by
  have hwt : 0 ≤ w * t ∧ w * t ≤ 960 := by
    refine ⟨Int.mul_nonneg (by omega) (by omega), ?_⟩
    have h1 : w * t ≤ 40 * t := Int.mul_le_mul_of_nonneg_right hw2 (by omega)
    omega
  have loop : ∀ (m n : Nat) (h2 : fx_H), n + m = 960 → mo (fun j => j = 32) (fun k => k < 0) h h2 → (∀ i : Nat, i < n → (i : Int) < w * t → h2.2.2.1 32 i = h.2.2.1 34 i) → fx_V l M_MO_read (0, 0) Q 0 0 234 [some (.ref 31), some (.int (zI s)), some (.int (zI (n : Nat)))] [] h2 := by
    intro m
    induction m with
    | zero =>
      intro n h2 hn m2 a2
      have hn9 : n = 960 := by omega
      subst hn9
      refine w_MO_read_234 (m2.S.trans hS) ⟨by omega, fun _ => ?_, fun u => by omega⟩
      have e11 : h2.2.1 31 11 = h.2.1 31 11 := m2.2 11 (by omega)
      have e12 : h2.2.1 31 12 = h.2.1 31 12 := m2.2 12 (by omega)
      have e13 : h2.2.1 31 13 = h.2.1 31 13 := m2.2 13 (by omega)
      have fin : ∀ u : Int, h.2.1 31 11 = u → Q (some (.int (zI s))) (fx_uF (fx_uF (fx_uF (fx_uF h2 31 7 (h2.2.1 31 12)) 31 8 u) 31 9 (h2.2.1 31 13)) 31 10 s) := by
        intro u hu
        rw [e12, e13]
        have mu : mo (fun j => j = 32) (fun k => 7 ≤ k ∧ k ≤ 10) h2 (fx_uF (fx_uF (fx_uF (fx_uF h2 31 7 (h.2.1 31 12)) 31 8 u) 31 9 (h.2.1 31 13)) 31 10 s) := (((mo.uF (by omega)).tr (mo.uF (by omega))).tr (mo.uF (by omega))).tr (mo.uF (by omega))
        refine k _ ((m2.mono (fun j q => q) (fun k q => by omega)).tr mu) (fun x y h1 h3 h4 h5 => ?_) ?_ ?_ ?_ ?_
        · have hy0 : 0 ≤ w * y := Int.mul_nonneg (by omega) h4
          have hlt : w * y + x < w * t := by rw [Int.mul_comm w y]; exact fp_lt h3 h4 h5 (by omega)
          show h2.2.2.1 32 _ = _
          rw [a2 _ (by omega) (by omega)]
          exact mg x y h1 h3 h4 h5
        · rw [uF_n _ _ (by omega), uF_n _ _ (by omega), uF_n _ _ (by omega), uF_s]
        · rw [uF_n _ _ (by omega), uF_n _ _ (by omega), uF_s]; exact hu.symm
        · rw [uF_n _ _ (by omega), uF_s]
        · rw [uF_s]
      refine e_MO_note (m2.S.trans hS) ?_
      rw [e11]
      exact ⟨by omega, fun u => ⟨rfl, rfl, fin 0 u⟩, fun u => ⟨rfl, rfl, fin 1 (by omega)⟩⟩
    | succ m ih =>
      intro n h2 hn m2 a2
      have e1 : (n : Int) + 1 = ((n + 1 : Nat) : Int) := by omega
      refine w_MO_read_234 (m2.S.trans hS) ⟨by omega, fun u => by omega, fun _ => ?_⟩
      rw [m2.2 15 (by omega), m2.2 16 (by omega), hw, ht, e1, Int.toNat_natCast]
      refine ⟨by omega, fun u => ⟨by omega, by omega, ih (n + 1) _ (by omega) (m2.tr (mo.uA rfl)) fun i hi hi2 => ?_⟩, fun u => ⟨by omega, by omega, by omega, by omega, ih (n + 1) _ (by omega) (m2.tr (mo.uA rfl)) fun i hi hi2 => ?_⟩⟩
      · rw [uA_n _ _ (by omega)]; exact a2 i (by omega) hi2
      · by_cases hin : i = n
        · subst hin; rw [uA_s, m2.1.2.2.1 34 i (by omega)]
        · rw [uA_n _ _ (by omega)]; exact a2 i (by omega) hi2
  exact loop 960 0 h (by omega) mo.rf fun i hi => by omega
/-- the strips are read -/
theorem v_read175 (hS : h.1 = fx_S0 a pp dd) (mc : mC h) (c : mL h L b) (tg : tagOK L b) (io : inOK L b) (t9 : mT9 h L b (tmany L b)) (hbad : h.2.1 31 22 = 0) (hg : h.2.1 31 14 = rg L b) (hw : h.2.1 31 15 = ov L b 0) (ht : h.2.1 31 16 = ov L b 1) (hsc : h.2.1 31 12 = ov L b 3) (hro : h.2.1 31 13 = ov L b 6)
    (k1 : ∀ f, rdS L b (ov L b 3) (rg L b) (ov L b 0) (ov L b 1) (ov L b 6) (rmm L b).toNat 0 (fun _ _ => 0) = some f → ∀ h2, mo iA iF h h2 → mG h2 (ov L b 0) f (ov L b 1) → fx_V l M_MO_read (0, 0) Q 0 0 234 [some (.ref 31), some (.int (zI (rmm L b))), some (.int (zI 0))] [] (fx_uF (fx_uF (fx_uF h2 31 1 (rg L b)) 31 2 (ov L b 0)) 31 3 (ov L b 1)))
    (k0 : rdS L b (ov L b 3) (rg L b) (ov L b 0) (ov L b 1) (ov L b 6) (rmm L b).toNat 0 (fun _ _ => 0) = none → ∀ h2, mo iA iF h h2 → Q (some (.int (zI (-4)))) h2) : fx_V l M_MO_read (0, 0) Q 0 0 175 [some (.ref 31), some (.int (zI (rmm L b))), some (.int (zI 0))] [] h := by
  have hm := tg.m
  have ro := tg.rOK
  have hrg := rg_01 L b
  have hr1 : 1 ≤ ov L b 6 := tg.2.2.2.1
  have hr6 : ov L b 6 ≤ ov L b 1 := tg.2.2.2.2.1
  have stop : ∀ (k : Nat) (h2 : fx_H), (k : Int) ≤ rmm L b → rdS L b (ov L b 3) (rg L b) (ov L b 0) (ov L b 1) (ov L b 6) (rmm L b).toNat 0 (fun _ _ => 0) = none → mo iA iF h h2 → h2.2.1 31 22 = 1 → fx_V l M_MO_read (0, 0) Q 0 0 175 [some (.ref 31), some (.int (zI (rmm L b))), some (.int (zI (k : Nat)))] [] h2 := by
    intro k h2 hk lost m2 b2
    refine w_MO_read_175 (m2.S.trans hS) ?_
    rw [b2]
    exact ⟨by omega, by omega, fun _ => ⟨by omega, fun u => by omega, fun _ => k0 lost h2 m2⟩, fun _ => ⟨by omega, fun _ => ⟨fun u => by omega, fun _ => k0 lost h2 m2⟩, fun u => by omega⟩⟩
  have loop : ∀ (m k : Nat) (f : Int → Int → Int) (h2 : fx_H), (k : Int) + m = rmm L b → mo iA iF h h2 → h2.2.1 31 22 = 0 → mG h2 (ov L b 0) f (if (k : Int) * ov L b 6 < ov L b 1 then k * ov L b 6 else ov L b 1) → (∀ x, f x (-1) = 0) → ((ov L b 3 = 3 ∨ ov L b 3 = 4) → ∀ x y, f x y = 0 ∨ f x y = 1) → rdS L b (ov L b 3) (rg L b) (ov L b 0) (ov L b 1) (ov L b 6) (rmm L b).toNat 0 (fun _ _ => 0) = rdS L b (ov L b 3) (rg L b) (ov L b 0) (ov L b 1) (ov L b 6) m k f → fx_V l M_MO_read (0, 0) Q 0 0 175 [some (.ref 31), some (.int (zI (rmm L b))), some (.int (zI (k : Nat)))] [] h2 := by
    intro m
    induction m with
    | zero =>
      intro k f h2 hk m2 b2 G2 fneg f01 er
      refine w_MO_read_175 (m2.S.trans hS) ?_
      rw [b2, m2.2 14 (by omega), m2.2 15 (by omega), m2.2 16 (by omega), hg, hw, ht]
      have hge := ro.ge
      have ek : ((rmm L b).toNat : Int) = k := by omega
      rw [ek] at hge
      rw [if_neg (by omega)] at G2
      exact ⟨by omega, by omega, fun _ => ⟨by omega, fun _ => ⟨hrg, k1 f er h2 m2 G2⟩, fun u => absurd rfl u⟩, fun u => by omega⟩
    | succ m ih =>
      intro k f h2 hk m2 b2 G2 fneg f01 er
      have hlt := ro.lt (i := k) (by omega)
      have hk0 : 0 ≤ (k : Int) * ov L b 6 := Int.mul_nonneg (by omega) (by omega)
      have hk1 : ((k : Int) + 1) * ov L b 6 = k * ov L b 6 + ov L b 6 := by rw [Int.add_mul, Int.one_mul]
      rw [if_pos hlt] at G2
      rw [rdS_s] at er
      refine w_MO_read_175 (m2.S.trans hS) ?_
      rw [b2]
      have e1 : (k : Int) + 1 = ((k + 1 : Nat) : Int) := by omega
      rw [e1]
      refine ⟨by omega, by omega, fun u => by omega, fun _ => ⟨by omega, fun u => absurd rfl u, fun _ => ?_⟩⟩
      refine m_inStrip (m2.S.trans hS) (mc.mo m2 (by omega)) (c.mo m2 (by omega) (by omega) (by omega) (by omega) (by omega)) tg io (mT9_mj t9 m2 (by omega) (by omega) (by omega) (by omega)) (by omega) b2 ((m2.2 14 (by omega)).trans hg) ((m2.2 15 (by omega)).trans hw) ((m2.2 16 (by omega)).trans ht) ((m2.2 12 (by omega)).trans hsc) ((m2.2 13 (by omega)).trans hro) fneg f01 G2 (fun f2 e2 h3 m3 b3 G3 => ⟨rfl, m3.S, ?_⟩) (fun e2 h3 m3 b3 => ⟨rfl, m3.S, stop (k + 1) h3 (by omega) (by simp only [er, e2]) (m2.tr m3) b3⟩)
      simp only [e2] at er
      have okN : 1 ≤ rbn (rg L b) (ov L b 0) := by
        have hsz := tg.2.1.2.2
        unfold szOK at hsz
        unfold rbn
        have := hsz.1
        split <;> omega
      refine ih (k + 1) f2 h3 (by omega) (m2.tr m3) b3 ?_ (fun x => ?_) (fun z => stO_01 z (f01 z) e2) er
      · have e9 : (k : Int) * ov L b 6 + (nst (ov L b 1) (ov L b 6) k : Nat) = if ((k + 1 : Nat) : Int) * ov L b 6 < ov L b 1 then ((k + 1 : Nat) : Int) * ov L b 6 else ov L b 1 := by
          rw [← e1]
          unfold nst
          split <;> omega
        rw [← e9]; exact G3
      · rw [stO_out hrg okN e2 x (-1) (Or.inl (by omega))]; exact fneg x
  refine loop (rmm L b).toNat 0 _ h (by omega) mo.rf hbad (fun x v h1 h3 h4 h5 => ?_) (fun _ => rfl) (fun _ _ _ => Or.inl rfl) rfl
  have : (((0 : Nat) : Int)) * ov L b 6 = 0 := by rw [Int.natCast_zero, Int.zero_mul]
  rw [this] at h5
  split at h5 <;> omega
set_option maxHeartbeats 2000000 in
theorem m_MOread (hS : h.1 = fx_S0 a pp dd) (mc : mC h) (c : mL h L b0)
    (kF : ∀ r, rdN L = some r → ∀ h2 b2, mo jA0 jF0 h h2 → mL h2 L b2 → h2.2.1 31 0 = 0 → Q (some (.int (zI r))) h2)
    (k1 : ∀ f, rdN L = none → rdP L = some f → ∀ h2, mo jA jF h h2 → mL h2 L (hb L) → h2.2.1 31 0 = 0 → h2.2.1 31 1 = rg L (hb L) → h2.2.1 31 2 = ov L (hb L) 0 → h2.2.1 31 3 = ov L (hb L) 1 → (∀ x y, 0 ≤ x → x < ov L (hb L) 0 → 0 ≤ y → y < ov L (hb L) 1 → h2.2.2.1 32 (ov L (hb L) 0 * y + x).toNat = f x y) → h2.2.1 31 7 = ov L (hb L) 3 → h2.2.1 31 8 = hb L → h2.2.1 31 9 = ov L (hb L) 6 → h2.2.1 31 10 = rmm L (hb L) → Q (some (.int (zI (rmm L (hb L))))) h2) : fx_Mt l M_MO_read (0, 0) [.ref 31] h Q := by
  have hB := c.2.2.2.2
  have hlen := c.2.2.2.1
  have f5 : h.2.1 31 5 = L.length := c.1.1
  unfold rdN at kF k1
  have hb01 : hb L = 0 ∨ hb L = 1 := by unfold hb; split <;> omega
  have start : ∀ u : Int, (u = 0 ∨ u = 1) → mo jA0 jF0 h (fx_uF (fx_uF h 31 0 0) 31 11 u) ∧ mL (fx_uF (fx_uF h 31 0 0) 31 11 u) L u ∧ (fx_uF (fx_uF h 31 0 0) 31 11 u).2.1 31 0 = 0 := by
    intro u hu
    have m0 : mo fN (fun k => k = 0) h (fx_uF h 31 0 0) := mo.uF rfl
    have c0 : mL (fx_uF h 31 0 0) L b0 := c.mo m0 (by omega) (by omega) (by omega) (by omega) (by omega)
    have m1 : mo fN (fun k => k = 11) (fx_uF h 31 0 0) (fx_uF (fx_uF h 31 0 0) 31 11 u) := mo.uF rfl
    refine ⟨(m0.mono (fun j q => by omega) (fun k q => by omega)).tr (m1.mono (fun j q => by omega) (fun k q => by omega)), ⟨c0.1.mo m1 (by omega) (by omega) (by omega) (by omega), uF_s _ _ _ _, hu, c.2.2.2⟩, ?_⟩
    rw [uF_n _ _ (by omega), uF_s]
  -- behind the two letters
  have body : ∀ h0 : fx_H, 8 ≤ L.length → bya L 0 = bya L 1 → (bya L 0 = 73 ∨ bya L 0 = 77) → mo jA0 jF0 h h0 → mL h0 L (hb L) → h0.2.1 31 0 = 0 → fx_Mt l M_MO_number (0, 0) [.ref 31, .long (zL 2), .int (zI 2)] h0 (fun v h8 => ∃ r10 : Int, v = some (.long (zL r10)) ∧ h8.1 = h0.1 ∧ zRL r10 ∧ (((zC r10 42) = 0 → fx_Mt l M_MO_takeTags (0, 0) [.ref 31] h8 (fun v h13 => ∃ r15 : Int, v = some (.int (zI r15)) ∧ h13.1 = h8.1 ∧ zR r15 ∧ ((r15 = 0 → Q (some (.int (zI (-2)))) h13) ∧ (¬ (r15 = 0) → fx_Mt l M_MO_fit (0, 0) [.ref 31] h13 (fun v h18 => ∃ r20 : Int, v = some (.int (zI r20)) ∧ h18.1 = h13.1 ∧ zR r20 ∧ ((¬ r20 = 0 → 0 ≤ (((h18.2.1 31 16) + (h18.2.1 31 13)) - 1) ∧ zR (((h18.2.1 31 16) + (h18.2.1 31 13)) - 1) ∧ 0 < (h18.2.1 31 13) ∧ zR (h18.2.1 31 13) ∧ (fx_V l M_MO_read (0, 0) Q 0 0 131 [some (.ref 31), some (.int (zI ((((h18.2.1 31 16) + (h18.2.1 31 13)) - 1) / (h18.2.1 31 13)))), some (.int (zI 0))] [] h18)) ∧ (r20 = 0 → Q (some (.int (zI (-2)))) h18))))))) ∧ (¬ ((zC r10 42) = 0) → Q (some (.int (zI (-1)))) h8))) := by
    intro h0 h8 e01 e7 m0 c0 f0
    have hS0 := m0.S.trans hS
    have nR := num_2 (b := hb L) hB 2
    refine m_number (n := 2) hS0 c0 (by omega) (by omega) (by omega) (by omega) ⟨_, rfl, rfl, ?_⟩
    rw [if_pos (by omega)]
    refine ⟨by omega, fun u => ?_, fun u => kF _ (cif_neg (fun q => u (zC_0.mpr q.2.2.2)) _ _) h0 _ m0 c0 f0⟩
    have hd : hdOK L := ⟨h8, e01, e7, zC_0.mp u⟩
    rw [cif_pos hd] at kF k1
    refine m_takeTags hS0 c0 h8 (fun tk1 h3 m3 t3 => ⟨1, rfl, m3.S, by omega, fun u => by omega, fun _ => ?_⟩) (fun tk0 h3 m3 => ⟨0, rfl, m3.S, by omega, fun _ => ?_, fun u => absurd rfl u⟩)
    rotate_left
    · have m03 : mo jA0 jF0 h h3 := m0.tr (m3.mono (fun j q => by omega) (fun k q => q.elim))
      exact kF _ (cif_neg (fun q => tk0 ⟨q.1, tag_tk hB q⟩) _ _) h3 _ m03 (c0.mo m3 (by omega) (fun q => q) (fun q => q) (fun q => q) (fun q => q)) ((m3.2 0 (fun q => q)).trans f0)
    have m03 : mo jA0 jF0 h h3 := m0.tr (m3.mono (fun j q => by omega) (fun k q => q.elim))
    have c3 : mL h3 L (hb L) := c0.mo m3 (by omega) (fun q => q) (fun q => q) (fun q => q) (fun q => q)
    have f03 : h3.2.1 31 0 = 0 := (m3.2 0 (fun q => q)).trans f0
    refine m_fit (m03.S.trans hS) c3 tk1.1.1 tk1.1.2 tk1.2 t3 (fun good h4 m4 g14 g15 g16 g12 g13 => ⟨1, rfl, m4.S, by omega, fun _ => ?_, fun u => by omega⟩) (fun good h4 m4 => ⟨0, rfl, m4.S, by omega, fun u => absurd rfl u, fun _ => ?_⟩)
    rotate_left
    · have m04 : mo jA0 jF0 h h4 := m03.tr (m4.mono (fun j q => by omega) (fun k q => by omega))
      exact kF _ (cif_neg (fun q => good q.2) _ _) h4 _ m04 (c3.mo m4 (by omega) (by omega) (by omega) (by omega) (by omega)) ((m4.2 0 (by omega)).trans f03)
    have tg : tagOK L (hb L) := ⟨tk1.1, good⟩
    rw [cif_pos tg] at kF k1
    have m04 : mo jA0 jF0 h h4 := m03.tr (m4.mono (fun j q => by omega) (fun k q => by omega))
    have hS4 := m04.S.trans hS
    have c4 : mL h4 L (hb L) := c3.mo m4 (by omega) (by omega) (by omega) (by omega) (by omega)
    have f04 : h4.2.1 31 0 = 0 := (m4.2 0 (by omega)).trans f03
    have t4 : mT9 h4 L (hb L) (tmany L (hb L)) := mT9_mj t3 m4 (by omega) (by omega) (by omega) (by omega)
    have hm := tg.m
    have hr1 : 1 ≤ ov L (hb L) 6 := tg.2.2.2.1
    have hr6 : ov L (hb L) 6 ≤ ov L (hb L) 1 := tg.2.2.2.2.1
    have l5 : h4.2.1 31 5 = L.length := c4.1.1
    have hsz := tg.2.1.2.2
    unfold szOK at hsz
    have sz : 1 ≤ ov L (hb L) 0 ∧ ov L (hb L) 0 ≤ 40 ∧ 1 ≤ ov L (hb L) 1 ∧ ov L (hb L) 1 ≤ 24 := by
      have := hsz.2.2.2
      have := hsz.2.1
      refine ⟨hsz.1, ?_, hsz.2.2.1, ?_⟩ <;> split at * <;> omega
    rw [g16, g13]
    refine ⟨by omega, by omega, by omega, by omega, ?_⟩
    have ermm : (ov L (hb L) 1 + ov L (hb L) 6 - 1) / ov L (hb L) 6 = rmm L (hb L) := rfl
    rw [ermm]
    have val : ∀ (j i : Nat) {Q2 : Option Value → fx_H → Prop}, (j = 5 ∨ j = 7) → (i : Int) < rmm L (hb L) → Q2 (some (.long (zL (tval L (hb L) (tT L (hb L) j) i)))) h4 → fx_Mt l M_MO_value (0, 0) [.ref 31, .int (zI (j : Nat)), .int (zI (i : Nat))] h4 Q2 := by
      intro j i Q2 hj hi kq
      have hw9 : hv L (hb L) (tT L (hb L) j) (rmm L (hb L)) := by
        rcases hj with rfl | rfl
        · exact tg.2.2.2.2.2.1
        · exact tg.2.2.2.2.2.2
      have hTr := tT_R hB tg.1.1 j
      have hvv := hv_vp hB hTr hw9 (i := i) (by omega) hi (by omega)
      have q1 : mTk h4 L (hb L) j (tT L (hb L) j) := (t4 j (by omega)).2 hw9.1
      exact m_valueM j (by omega) hS4 c4 q1 (by omega) (by omega) (vp_nn hB (by omega)) (by omega) kq
    have loop : ∀ (m i : Nat), (i : Int) + m = rmm L (hb L) → (∀ j : Nat, j < i → tval L (hb L) (tT L (hb L) 5) j + tval L (hb L) (tT L (hb L) 7) j ≤ L.length) → fx_V l M_MO_read (0, 0) Q 0 0 131 [some (.ref 31), some (.int (zI (rmm L (hb L)))), some (.int (zI (i : Nat)))] [] h4 := by
      intro m
      induction m with
      | zero =>
        intro i hi d
        have io : inOK L (hb L) := fun j hj => d j (by omega)
        rw [cif_pos io] at kF k1
        refine w_MO_read_131 hS4 ⟨by omega, by omega, fun _ => ?_, fun u => by omega⟩
        have mu : mo fN (fun k => k = 22) h4 (fx_uF h4 31 22 0) := mo.uF rfl
        have m05 : mo jA0 jF0 h (fx_uF h4 31 22 0) := m04.tr (mu.mono (fun j q => by omega) (fun k q => by omega))
        have c5 : mL (fx_uF h4 31 22 0) L (hb L) := c4.mo mu (by omega) (by omega) (by omega) (by omega) (by omega)
        refine v_read175 (m05.S.trans hS) (mc.mo m05 (by omega)) c5 tg io (mT9_mj t4 mu (by omega) (by omega) (by omega) (by omega)) (uF_s _ _ _ _) ((mu.2 14 (by omega)).trans g14) ((mu.2 15 (by omega)).trans g15) ((mu.2 16 (by omega)).trans g16) ((mu.2 12 (by omega)).trans g12) ((mu.2 13 (by omega)).trans g13) (fun f ef h6 m6 G6 => ?_) (fun ef h6 m6 => ?_)
        · have er : rdP L = some f := ef
          rw [er] at k1
          have m06 : mo jA0 jF0 h h6 := m05.tr (m6.mono (fun j q => by omega) (fun k q => by omega))
          have mu3 : mo fN (fun k => 1 ≤ k ∧ k ≤ 3) h6 (fx_uF (fx_uF (fx_uF h6 31 1 (rg L (hb L))) 31 2 (ov L (hb L) 0)) 31 3 (ov L (hb L) 1)) := ((mo.uF (by omega)).tr (mo.uF (by omega))).tr (mo.uF (by omega))
          obtain ⟨h7, eh7⟩ : ∃ h7, fx_uF (fx_uF (fx_uF h6 31 1 (rg L (hb L))) 31 2 (ov L (hb L) 0)) 31 3 (ov L (hb L) 1) = h7 := ⟨_, rfl⟩
          have q1 : h7.2.1 31 1 = rg L (hb L) := by rw [← eh7, uF_n _ _ (by omega), uF_n _ _ (by omega), uF_s]
          have q2 : h7.2.1 31 2 = ov L (hb L) 0 := by rw [← eh7, uF_n _ _ (by omega), uF_s]
          have q3 : h7.2.1 31 3 = ov L (hb L) 1 := by rw [← eh7, uF_s]
          rw [eh7] at mu3 ⊢
          have m67 : mo jA jF h h7 := m06.j.tr (mu3.mono (fun j q => by omega) (fun k q => by omega))
          have c7 : mL h7 L (hb L) := (c5.mo m6 (by omega) (by omega) (by omega) (by omega) (by omega)).mo mu3 (by omega) (by omega) (by omega) (by omega) (by omega)
          have q12 : h7.2.1 31 12 = ov L (hb L) 3 := (mu3.2 12 (by omega)).trans ((m6.2 12 (by omega)).trans ((mu.2 12 (by omega)).trans g12))
          have q13 : h7.2.1 31 13 = ov L (hb L) 6 := (mu3.2 13 (by omega)).trans ((m6.2 13 (by omega)).trans ((mu.2 13 (by omega)).trans g13))
          have q15 : h7.2.1 31 15 = ov L (hb L) 0 := (mu3.2 15 (by omega)).trans ((m6.2 15 (by omega)).trans ((mu.2 15 (by omega)).trans g15))
          have q16 : h7.2.1 31 16 = ov L (hb L) 1 := (mu3.2 16 (by omega)).trans ((m6.2 16 (by omega)).trans ((mu.2 16 (by omega)).trans g16))
          have q0 : h7.2.1 31 0 = 0 := (mu3.2 0 (by omega)).trans ((m6.2 0 (by omega)).trans ((mu.2 0 (by omega)).trans f04))
          refine v_read234 (m67.S.trans hS) q15 q16 sz.1 sz.2.1 sz.2.2.1 sz.2.2.2 (by rw [c7.2.1]; exact hb01) (G6.mo mu3 (by omega)) fun h8 m8 px p7 p8 p9 p10 => ?_
          exact k1 f rfl rfl h8 (m67.tr (m8.mono (fun j q => Or.inl q) (fun k q => by omega))) (c7.mo m8 (by omega) (by omega) (by omega) (by omega) (by omega)) ((m8.2 0 (by omega)).trans q0) ((m8.2 1 (by omega)).trans q1) ((m8.2 2 (by omega)).trans q2) ((m8.2 3 (by omega)).trans q3) px (p7.trans q12) (p8.trans c7.2.1) (p9.trans q13) p10
        · have er : rdP L = none := ef
          rw [er] at kF
          exact kF _ rfl h6 _ (m05.tr (m6.mono (fun j q => by omega) (fun k q => by omega))) (c5.mo m6 (by omega) (by omega) (by omega) (by omega) (by omega)) ((m6.2 0 (by omega)).trans ((mu.2 0 (by omega)).trans f04))
      | succ m ih =>
        intro i hi d
        have v5 := tval_R (b := hb L) hB (tT L (hb L) 5) i
        have v7 := tval_R (b := hb L) hB (tT L (hb L) 7) i
        refine w_MO_read_131 hS4 ⟨by omega, by omega, fun u => by omega, fun _ => ?_⟩
        refine val 5 i (Or.inl rfl) (by omega) ⟨_, rfl, rfl, ?_⟩
        refine val 7 i (Or.inr rfl) (by omega) ⟨_, rfl, rfl, ?_⟩
        rw [l5]
        have e1 : (i : Int) + 1 = ((i + 1 : Nat) : Int) := by omega
        rw [e1]
        refine ⟨by omega, by omega, by omega, fun z => ih (i + 1) (by omega) fun j hj => ?_, fun z => kF _ (cif_neg (fun q => z (zC_le.mpr (q i (by omega)))) _ _) h4 _ m04 c4 f04⟩
        by_cases hji : j = i
        · subst hji; exact zC_le.mp z
        · exact d j (by omega)
    exact loop (rmm L (hb L)).toNat 0 (by omega) fun j hj => by omega
  refine e_MO_read hS ?_
  have a0 : 0 < L.length → h.2.2.1 33 0 = bya L 0 := fun u => c.1.2.2.2 0 u
  have a1 : 1 < L.length → h.2.2.1 33 1 = bya L 1 := fun u => c.1.2.2.2 1 u
  have r0 := bya_R hB 0
  have r1 := bya_R hB 1
  rw [f5]
  obtain ⟨s01, s02, s03⟩ := start 0 (Or.inl rfl)
  obtain ⟨s11, s12, s13⟩ := start 1 (Or.inr rfl)
  have no : ∀ u : Int, (u = 0 ∨ u = 1) → ¬ hdOK L → Q (some (.int (zI (-1)))) (fx_uF (fx_uF h 31 0 0) 31 11 u) := by
    intro u hu hd
    obtain ⟨q1, q2, q3⟩ := start u hu
    exact kF _ (cif_neg hd _ _) _ _ q1 q2 q3
  refine ⟨by omega, fun u => ⟨fun _ => no 0 (Or.inl rfl) (fun q => by have := q.1; omega), fun u2 => by omega⟩, fun u => ?_⟩
  rw [a0 (by omega)]
  refine ⟨by omega, fun n7 => ⟨fun u8 => no 0 (Or.inl rfl) (fun q => by have := q.1; omega), fun u8 => ?_⟩, fun y7 => ⟨fun u8 => no 1 (Or.inr rfl) (fun q => by have := q.1; omega), fun u8 => ?_⟩⟩
  · have hb0 : hb L = 0 := by unfold hb; rw [if_neg n7]
    rw [a1 (by omega)]
    refine ⟨by omega, fun ne => no 0 (Or.inl rfl) (fun q => ne q.2.1), fun eq => ⟨fun e73 => ?_, fun n73 => ⟨fun _ => no 0 (Or.inl rfl) (fun q => by have := q.2.2.1; omega), fun e77 => absurd e77 n7⟩⟩⟩
    exact body _ (by omega) eq (Or.inl e73) s01 (by rw [hb0]; exact s02) s03
  · have hb1 : hb L = 1 := by unfold hb; rw [if_pos y7]
    rw [a1 (by omega)]
    refine ⟨by omega, fun ne => no 1 (Or.inr rfl) (fun q => ne q.2.1), fun eq => ⟨fun e73 => by omega, fun n73 => ⟨fun n77 => absurd y7 n77, fun _ => ?_⟩⟩⟩
    exact body _ (by omega) eq (Or.inr y7) s11 (by rw [hb1]; exact s12) s13
end MR
