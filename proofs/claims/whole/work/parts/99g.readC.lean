/-! the program's read -/
noncomputable def cif {A : Type} (P : Prop) (x y : A) : A := @ite _ P (Classical.propDecidable P) x y
theorem cif_pos {A : Type} {P : Prop} (h : P) (x y : A) : cif P x y = x := by unfold cif; exact @if_pos P (Classical.propDecidable P) h _ _ _
theorem cif_neg {A : Type} {P : Prop} (h : ¬ P) (x y : A) : cif P x y = y := by unfold cif; exact @if_neg P (Classical.propDecidable P) h _ _ _
def hb (L : List Int) : Int := if bya L 0 = 77 then 1 else 0
noncomputable def rdP (L : List Int) : Option (Int → Int → Int) := rdS L (hb L) (ov L (hb L) 3) (rg L (hb L)) (ov L (hb L) 0) (ov L (hb L) 1) (ov L (hb L) 6) (rmm L (hb L)).toNat 0 (fun _ _ => 0)
/-- why a file cannot be read; none if it can -/
noncomputable def rdN (L : List Int) : Option Int := cif (hdOK L) (cif (tagOK L (hb L)) (cif (inOK L (hb L)) (match rdP L with | none => some (-4) | some _ => none) (some (-3))) (some (-2))) (some (-1))
/-- all but the places of P stays; the shapes aside -/
def sv (P : Nat → Prop) (h h2 : fx_H) : Prop := (∀ q k, ¬ P q → h2.2.1 q k = h.2.1 q k) ∧ (∀ q k, ¬ P q → h2.2.2.1 q k = h.2.2.1 q k) ∧ ∀ q k, ¬ P q → h2.2.2.2 q k = h.2.2.2 q k
abbrev fR (pp dd : Nat) : Nat → Prop := fun j => j = 0 ∨ j = 1 ∨ j = 3 ∨ j = 11 ∨ j = 12 ∨ (16 ≤ j ∧ j ≤ 22) ∨ j = dd ∨ j = dd + 1
section FR
variable {l : Launch} {Q : Option Value → fx_H → Prop} {h : fx_H} {a : Nat → Nat} {pp dd : Nat} {L : List Int} {b0 : Int}
theorem swap1 {a : Nat → Nat} {pp dd : Nat} : (fx_S0 a pp dd).set 0 (a 0, .inl (0, ([some 1, some 3, some 11, some 13, some 14, some 16, some 23, some 24, some 25, some 26, some pp, some dd, none, none, none, none, none] : List (Option Nat)).set 10 (some dd))) = fx_S0 a dd dd := rfl
theorem swap2 {a : Nat → Nat} {pp dd : Nat} : (fx_S0 a dd dd).set 0 (a 0, .inl (0, ([some 1, some 3, some 11, some 13, some 14, some 16, some 23, some 24, some 25, some 26, some dd, some dd, none, none, none, none, none] : List (Option Nat)).set 11 (some pp))) = fx_S0 a dd pp := rfl
theorem pd.sym (q : pd pp dd) : pd dd pp := by unfold pd at *; omega
theorem S0_same {n : Nat} (hn : 1 ≤ n) (p1 d1 p2 d2 : Nat) : (fx_S0 a p1 d1)[n]? = (fx_S0 a p2 d2)[n]? := by
  obtain ⟨m, rfl⟩ : ∃ m, n = m + 1 := ⟨n - 1, by omega⟩
  rfl
set_option maxRecDepth 100000 in
set_option maxHeartbeats 4000000 in
theorem m_FPread (hS : h.1 = fx_S0 a pp dd) (qd : pd pp dd) (fm : fxM h) (tr : c3T h) (c : cL h L b0) (pok : fp_ok h pp) (dok : fp_ok h dd)
    (kF : ∀ r, rdN L = some r → ∀ h2 b2, sm (fR pp dd) h h2 → h2.2.1 0 = h.2.1 0 → cL h2 L b2 → fp_ok h2 dd → Q (some (.int (zI r))) h2)
    (k1 : ∀ f, rdN L = none → hdOK L → tagOK L (hb L) → rdP L = some f → ∀ h2, h2.1 = fx_S0 a dd pp → sv (fR pp dd) h h2 → cL h2 L (hb L) → cP h2 dd (rg L (hb L)) (ov L (hb L) 0) (ov L (hb L) 1) f → fp_ok h2 pp → h2.2.1 0 12 = 1 → h2.2.1 0 13 = ov L (hb L) 3 → h2.2.1 0 14 = hb L → h2.2.1 0 15 = ov L (hb L) 6 → h2.2.1 0 16 = rmm L (hb L) → Q (some (.int (zI (rmm L (hb L))))) h2) : fx_Mt l M_FP_read (0, 0) [.ref 0] h Q := by
  have hdd : (pp = 27 ∧ dd = 29) ∨ (pp = 29 ∧ dd = 27) := qd
  unfold rdN at kF k1
  refine fx_entry (ls := [some (.ref 0), none]) (by decide) (Nat.le_of_ble_eq_true rfl) rfl ?_
  refine fx_aload_n (i := 0) d_FP_read_0 rfl rfl ?_
  refine fx_getR (q := 1) d_FP_read_1 lk_FP_20 (at_0 (h := _) hS) rfl rfl ?_
  refine fx_callV (M' := M_BY_understandHeader) (B' := (0, 0)) (vs := []) (rest := []) (c1 := 0) (s1 := 0) (n := 7) d_FP_read_4 ca_FP_read_163 (at_1 (h := _) hS) rfl rfl rfl ⟨by decide, by decide⟩ (Nat.le_of_ble_eq_true rfl) (Or.inl rfl) (m_understandHeader hS c (fun hd h1 m1 c1 => ?_) (fun hd h1 b1 m1 c1 => ?_))
  rotate_left
  · show fx_V l M_FP_read (0, 0) Q 0 0 7 [some (.ref 0), none] [.int (zI 0)] h1
    refine fx_if_ne (t := 12) (n := 10) d_FP_read_7 (by omega) (fun z => absurd rfl z) (fun _ => ?_)
    refine fx_iconst d_FP_read_10 ?_
    exact fx_end (some (.int (zI (-1)))) ⟨⟨_, rfl, rfl⟩, d_FP_read_11⟩ (Nat.le_refl _) (Nat.le_refl _) rfl (kF _ (cif_neg hd _ _) h1 b1 (m1.mono fun j q => by omega) (funext fun k => m1.2.1 0 k (by omega)) c1 (m1.pic dok (by omega)))
  rw [cif_pos hd] at kF k1
  have hbL : (if bya L 0 = 77 then (1 : Int) else 0) = hb L := rfl
  rw [hbL] at c1
  have hS1 := m1.1.trans hS
  show fx_V l M_FP_read (0, 0) Q 0 0 7 [some (.ref 0), none] [.int (zI 1)] h1
  refine fx_if_ne (t := 12) (n := 10) d_FP_read_7 (by omega) (fun _ => ?_) (fun z => by omega)
  refine fx_aload_n (i := 0) d_FP_read_12 rfl rfl ?_
  refine fx_getR (q := 11) d_FP_read_13 lk_FP_33 (at_0 (h := _) hS1) rfl rfl ?_
  have mR1 : sm (fR pp dd) h h1 := m1.mono fun j q => by omega
  refine fx_callV (M' := M_TG_understand) (B' := (0, 0)) (vs := []) (rest := []) (c1 := 0) (s1 := 0) (n := 19) d_FP_read_16 ca_FP_read_167 (at_11 (h := _) hS1) rfl rfl rfl ⟨by decide, by decide⟩ (Nat.le_of_ble_eq_true rfl) (Or.inl rfl) (m_understand hS1 c1 hd.1 (fun tg h2 m2 u2 => ?_) (fun tg h2 m2 => ?_))
  rotate_left
  · have m12 : sm (fR pp dd) h h2 := mR1.tr (m2.mono fun j q => by omega)
    show fx_V l M_FP_read (0, 0) Q 0 0 19 [some (.ref 0), none] [.int (zI 0)] h2
    refine fx_if_ne (t := 25) (n := 22) d_FP_read_19 (by omega) (fun z => absurd rfl z) (fun _ => ?_)
    refine fx_bipush (v := -2) d_FP_read_22 rfl ?_
    exact fx_end (some (.int (zI (-2)))) ⟨⟨_, rfl, rfl⟩, d_FP_read_24⟩ (Nat.le_refl _) (Nat.le_refl _) rfl (kF _ (cif_neg tg _ _) h2 _ m12 (funext fun k => (m2.2.1 0 k (by omega)).trans (m1.2.1 0 k (by omega))) (c1.sm m2 (by omega) (by omega)) (m2.pic (m1.pic dok (by omega)) (by omega)))
  rw [cif_pos tg] at kF k1
  have m12 : sm (fR pp dd) h h2 := mR1.tr (m2.mono fun j q => by omega)
  have hS2 := m12.1.trans hS
  have c2 : cL h2 L (hb L) := c1.sm m2 (by omega) (by omega)
  show fx_V l M_FP_read (0, 0) Q 0 0 19 [some (.ref 0), none] [.int (zI 1)] h2
  refine fx_if_ne (t := 25) (n := 22) d_FP_read_19 (by omega) (fun _ => ?_) (fun z => by omega)
  refine fx_aload_n (i := 0) d_FP_read_25 rfl rfl ?_
  refine fx_getR (q := 11) d_FP_read_26 lk_FP_33 (at_0 (h := _) hS2) rfl rfl ?_
  have e02 : h2.2.1 0 = h.2.1 0 := funext fun k => (m2.2.1 0 k (by omega)).trans (m1.2.1 0 k (by omega))
  have dok2 : fp_ok h2 dd := m2.pic (m1.pic dok (by omega)) (by omega)
  have pok2 : fp_ok h2 pp := m2.pic (m1.pic pok (by omega)) (by omega)
  refine fx_callV (M' := M_TG_stripsAreInFile) (B' := (0, 0)) (vs := []) (rest := []) (c1 := 0) (s1 := 0) (n := 32) d_FP_read_29 ca_FP_read_170 (at_11 (h := _) hS2) rfl rfl rfl ⟨by decide, by decide⟩ (Nat.le_of_ble_eq_true rfl) (Or.inl rfl) (m_stripsAreInFile hS2 c2 tg u2 (fun io => ?_) (fun io => ?_))
  rotate_left
  · show fx_V l M_FP_read (0, 0) Q 0 0 32 [some (.ref 0), none] [.int (zI 0)] h2
    refine fx_if_ne (t := 38) (n := 35) d_FP_read_32 (by omega) (fun z => absurd rfl z) (fun _ => ?_)
    refine fx_bipush (v := -3) d_FP_read_35 rfl ?_
    exact fx_end (some (.int (zI (-3)))) ⟨⟨_, rfl, rfl⟩, d_FP_read_37⟩ (Nat.le_refl _) (Nat.le_refl _) rfl (kF _ (cif_neg io _ _) h2 _ m12 e02 c2 dok2)
  rw [cif_pos io] at kF k1
  show fx_V l M_FP_read (0, 0) Q 0 0 32 [some (.ref 0), none] [.int (zI 1)] h2
  refine fx_if_ne (t := 38) (n := 35) d_FP_read_32 (by omega) (fun _ => ?_) (fun z => by omega)
  refine fx_aload_n (i := 0) d_FP_read_38 rfl rfl ?_
  have tr2 : c3T h2 := (tr.sm m1 (by omega) (by omega) (by omega)).sm m2 (by omega) (by omega) (by omega)
  have fm2 : fxM h2 := (fm.sm m1 (by omega) (by omega)).sm m2 (by omega) (by omega)
  refine fx_callV (M' := M_FP_unpackStrips) (B' := (0, 0)) (vs := []) (rest := []) (c1 := 0) (s1 := 0) (n := 42) d_FP_read_39 ca_FP_read_173 (at_0 (h := _) hS2) rfl rfl rfl ⟨by decide, by decide⟩ (Nat.le_of_ble_eq_true rfl) (Or.inl rfl) (m_unpackStrips hS2 qd fm2 tr2 c2 tg io u2 dok2 (fun f2 ef h3 m3 p3 => ?_) (fun ef h3 m3 dok3 => ?_))
  rotate_left
  · have m13 : sm (fR pp dd) h h3 := m12.tr (m3.mono fun j q => by omega)
    show fx_V l M_FP_read (0, 0) Q 0 0 42 [some (.ref 0), none] [.int (zI 0)] h3
    refine fx_if_ne (t := 48) (n := 45) d_FP_read_42 (by omega) (fun z => absurd rfl z) (fun _ => ?_)
    refine fx_bipush (v := -4) d_FP_read_45 rfl ?_
    have er : rdP L = none := ef
    rw [er] at kF
    exact fx_end (some (.int (zI (-4)))) ⟨⟨_, rfl, rfl⟩, d_FP_read_47⟩ (Nat.le_refl _) (Nat.le_refl _) rfl (kF _ rfl h3 _ m13 (funext fun k => (m3.2.1 0 k (by omega)).trans (congrFun e02 k)) (c2.sm m3 (by omega) (by omega)) dok3)
  have er : rdP L = some f2 := ef
  rw [er] at k1
  have m13 : sm (fR pp dd) h h3 := m12.tr (m3.mono fun j q => by omega)
  have hS3 := m13.1.trans hS
  have u3 : cU h3 L (hb L) := u2.sm m3 (by omega) (by omega)
  have c3 : cL h3 L (hb L) := c2.sm m3 (by omega) (by omega)
  have pok3 : fp_ok h3 pp := m3.pic pok2 (by omega)
  show fx_V l M_FP_read (0, 0) Q 0 0 42 [some (.ref 0), none] [.int (zI 1)] h3
  refine fx_if_ne (t := 48) (n := 45) d_FP_read_42 (by omega) (fun _ => ?_) (fun z => by omega)
  refine fx_aload_n (i := 0) d_FP_read_48 rfl rfl ?_
  refine fx_getR (q := pp) d_FP_read_49 lk_FP_77 (at_0 (h := _) hS3) rfl rfl ?_
  refine fx_astore_n (i := 1) (ls2 := [some (.ref 0), some (.ref pp)]) d_FP_read_52 rfl (by decide) rfl ?_
  refine fx_aload_n (i := 0) d_FP_read_53 rfl rfl ?_
  refine fx_aload_n (i := 0) d_FP_read_54 rfl rfl ?_
  refine fx_getR (q := dd) d_FP_read_55 lk_FP_81 (at_0 (h := _) hS3) rfl rfl ?_
  refine fx_putR d_FP_read_58 lk_FP_77 (at_0 (h := _) hS3) rfl (by simp) (Or.inl ⟨_, rfl⟩) ?_
  obtain ⟨h4, eh4⟩ : ∃ h4, fx_uR h3 0 (a 0, .inl (0, ([some 1, some 3, some 11, some 13, some 14, some 16, some 23, some 24, some 25, some 26, some pp, some dd, none, none, none, none, none] : List (Option Nat)).set 10 (some dd))) = h4 := ⟨_, rfl⟩
  have hS4 : h4.1 = fx_S0 a dd dd := by rw [← eh4]; show h3.1.set 0 _ = _; rw [hS3]; exact swap1
  have v4 : h4.2 = h3.2 := by rw [← eh4]; rfl
  rw [eh4]
  refine fx_aload_n (i := 0) d_FP_read_61 rfl rfl ?_
  refine fx_aload_n (i := 1) d_FP_read_62 rfl rfl ?_
  refine fx_putR d_FP_read_63 lk_FP_81 (at_0 (h := _) hS4) rfl (by simp) (Or.inl ⟨_, rfl⟩) ?_
  obtain ⟨h5, eh5⟩ : ∃ h5, fx_uR h4 0 (a 0, .inl (0, ([some 1, some 3, some 11, some 13, some 14, some 16, some 23, some 24, some 25, some 26, some dd, some dd, none, none, none, none, none] : List (Option Nat)).set 11 (some pp))) = h5 := ⟨_, rfl⟩
  have hS5 : h5.1 = fx_S0 a dd pp := by rw [← eh5]; show h4.1.set 0 _ = _; rw [hS4]; exact swap2
  have v5 : h5.2 = h3.2 := by rw [← eh5]; exact v4
  rw [eh5]
  refine fx_aload_n (i := 0) d_FP_read_66 rfl rfl ?_
  refine fx_aload_n (i := 0) d_FP_read_67 rfl rfl ?_
  refine fx_getR (q := 11) d_FP_read_68 lk_FP_33 (at_0 (h := _) hS5) rfl rfl ?_
  refine fx_getI d_FP_read_71 lk_FP_176 (at_11 (h := _) hS5) rfl ?_
  refine fx_aload_n (i := 0) d_FP_read_74 rfl rfl ?_
  refine fx_getR (q := 1) d_FP_read_75 lk_FP_20 (at_0 (h := _) hS5) rfl rfl ?_
  refine fx_getI d_FP_read_78 lk_FP_179 (at_1 (h := _) hS5) rfl ?_
  refine fx_aload_n (i := 0) d_FP_read_81 rfl rfl ?_
  refine fx_getR (q := 11) d_FP_read_82 lk_FP_33 (at_0 (h := _) hS5) rfl rfl ?_
  refine fx_getI d_FP_read_85 lk_FP_182 (at_11 (h := _) hS5) rfl ?_
  refine fx_aload_n (i := 0) d_FP_read_88 rfl rfl ?_
  refine fx_getR (q := 11) d_FP_read_89 lk_FP_33 (at_0 (h := _) hS5) rfl rfl ?_
  refine fx_getI d_FP_read_92 lk_FP_185 (at_11 (h := _) hS5) rfl ?_
  have f5 : ∀ q k, h5.2.1 q k = h3.2.1 q k := fun q k => by rw [v5]
  rw [f5 11 5, f5 1 2, f5 11 6, f5 11 7, u3.2.2.2.2.1, c3.2.1, u3.2.2.2.2.2.1, u3.2.2.2.2.2.2]
  have H : fx_Mt l M_FP_know (0, 0) [.ref 0, .int (zI (ov L (hb L) 3)), .int (zI (hb L)), .int (zI (ov L (hb L) 6)), .int (zI (rmm L (hb L)))] h5 (fun v h9 => v = none ∧ h9 = fx_uF (fx_uF (fx_uF (fx_uF (fx_uF h5 0 12 1) 0 13 (ov L (hb L) 3)) 0 14 (hb L)) 0 15 (ov L (hb L) 6)) 0 16 (rmm L (hb L))) := e_FP_know hS5 (pA hS5 qd.sym) (pB hS5 qd.sym) (dA hS5 qd.sym) (dB hS5 qd.sym) ⟨c3.2.2.1, rfl, rfl⟩
  refine fx_callV (M' := M_FP_know) (B' := (0, 0)) (vs := [.int (zI (ov L (hb L) 3)), .int (zI (hb L)), .int (zI (ov L (hb L) 6)), .int (zI (rmm L (hb L)))]) (rest := []) (c1 := 0) (s1 := 0) (n := 98) d_FP_read_95 ca_FP_read_156 (at_0 (h := _) hS5) rfl rfl rfl ⟨by decide, by decide⟩ (Nat.le_of_ble_eq_true rfl) (Or.inl rfl) (fx_Mt.mono H fun v h6 hv => ?_)
  obtain ⟨rfl, rfl⟩ := hv
  show fx_V l M_FP_read (0, 0) Q 0 0 98 [some (.ref 0), some (.ref pp)] [] _
  obtain ⟨h6, eh6⟩ : ∃ h6, fx_uF (fx_uF (fx_uF (fx_uF (fx_uF h5 0 12 1) 0 13 (ov L (hb L) 3)) 0 14 (hb L)) 0 15 (ov L (hb L) 6)) 0 16 (rmm L (hb L)) = h6 := ⟨_, rfl⟩
  have m6 : sm (fun j => j = 0) h5 h6 := by rw [← eh6]; exact ((((sm.uF (P := fun j => j = 0) rfl).tr (sm.uF rfl)).tr (sm.uF rfl)).tr (sm.uF rfl)).tr (sm.uF rfl)
  have g12 : h6.2.1 0 12 = 1 := by rw [← eh6, uF_n _ _ (by omega), uF_n _ _ (by omega), uF_n _ _ (by omega), uF_n _ _ (by omega), uF_s]
  have g13 : h6.2.1 0 13 = ov L (hb L) 3 := by rw [← eh6, uF_n _ _ (by omega), uF_n _ _ (by omega), uF_n _ _ (by omega), uF_s]
  have g14 : h6.2.1 0 14 = hb L := by rw [← eh6, uF_n _ _ (by omega), uF_n _ _ (by omega), uF_s]
  have g15 : h6.2.1 0 15 = ov L (hb L) 6 := by rw [← eh6, uF_n _ _ (by omega), uF_s]
  have g16 : h6.2.1 0 16 = rmm L (hb L) := by rw [← eh6, uF_s]
  rw [eh6]
  have hS6 : h6.1 = fx_S0 a dd pp := m6.1.trans hS5
  refine fx_aload_n (i := 0) d_FP_read_98 rfl rfl ?_
  refine fx_getR (q := 11) d_FP_read_99 lk_FP_33 (at_0 (h := _) hS6) rfl rfl ?_
  refine fx_getI d_FP_read_102 lk_FP_185 (at_11 (h := _) hS6) rfl ?_
  have f6 : ∀ q k, ¬ q = 0 → h6.2.1 q k = h3.2.1 q k := fun q k hq => by rw [m6.2.1 q k hq, f5]
  have a6 : ∀ q k, h6.2.2.1 q k = h3.2.2.1 q k := fun q k => by
    have e1 : h6.2.2.1 = h5.2.2.1 := by rw [← eh6]; rfl
    rw [e1, v5]
  have l6 : ∀ q k, h6.2.2.2 q k = h3.2.2.2 q k := fun q k => by
    have e1 : h6.2.2.2 = h5.2.2.2 := by rw [← eh6]; rfl
    rw [e1, v5]
  rw [f6 11 7 (by omega), u3.2.2.2.2.2.2]
  have same : ∀ n : Nat, 1 ≤ n → h6.1[n]? = h3.1[n]? := fun n hn => by rw [hS6, hS3]; exact S0_same hn _ _ _ _
  have mvs : sv (fun j => j = 0) h3 h6 := ⟨fun q k hq => f6 q k hq, fun q k _ => a6 q k, fun q k _ => l6 q k⟩
  refine fx_end (some (.int (zI (rmm L (hb L))))) ⟨⟨_, rfl, rfl⟩, d_FP_read_105⟩ (Nat.le_refl _) (Nat.le_refl _) rfl (k1 f2 rfl hd tg rfl h6 hS6 ⟨fun q k hq => ?_, fun q k hq => ?_, fun q k hq => ?_⟩ ?_ ?_ ?_ g12 g13 g14 g15 g16)
  · rw [f6 q k (fun z => hq (Or.inl z))]; exact m13.2.1 q k hq
  · rw [a6]; exact m13.2.2.1 q k hq
  · rw [l6]; exact m13.2.2.2 q k hq
  · obtain ⟨⟨w1, w2, w3, w4⟩, w5, w6⟩ := c3
    refine ⟨⟨?_, ?_, fun i hi => ?_, ?_⟩, ?_, w6⟩
    · rw [f6 1 _ (by omega)]; exact w1
    · rw [f6 1 _ (by omega)]; exact w2
    · rw [a6]; exact w3 i hi
    · first | exact w4 | (rw [a6]; exact w4) | (intro i hi; rw [a6]; exact w4 i hi)
    · rw [f6 1 _ (by omega)]; exact w5
  · obtain ⟨q1, q2, q3, q4, q5, q6, q7, q8⟩ := p3
    obtain ⟨o1, o2, o3⟩ := q1
    refine ⟨⟨by rw [same _ (by omega)]; exact o1, by rw [same _ (by omega)]; exact o2, by rw [f6 dd 1 (by omega), f6 dd 2 (by omega), f6 dd 3 (by omega)]; exact o3⟩, fun i hi => by rw [a6, f6 dd 1 (by omega)]; exact q2 i hi, q3, by rw [f6 dd 1 (by omega)]; exact q4, by rw [f6 dd 2 (by omega)]; exact q5, by rw [f6 dd 3 (by omega)]; exact q6, fun x y => ?_, q8⟩
    have := q7 x y
    unfold fp_px fp_in at this ⊢
    rw [f6 dd 2 (by omega), f6 dd 3 (by omega), a6]; exact this
  · obtain ⟨o1, o2, o3⟩ := pok3
    exact ⟨by rw [same _ (by omega)]; exact o1, by rw [same _ (by omega)]; exact o2, by rw [f6 pp 1 (by omega), f6 pp 2 (by omega), f6 pp 3 (by omega)]; exact o3⟩
end FR
