/-! what stays: two worlds are the same outside some places -/
def sm (P : Nat → Prop) (h h2 : fx_H) : Prop := h2.1 = h.1 ∧ (∀ q k, ¬ P q → h2.2.1 q k = h.2.1 q k) ∧ (∀ q k, ¬ P q → h2.2.2.1 q k = h.2.2.1 q k) ∧ ∀ q k, ¬ P q → h2.2.2.2 q k = h.2.2.2 q k
theorem sm.rf {P : Nat → Prop} {h : fx_H} : sm P h h := ⟨rfl, fun _ _ _ => rfl, fun _ _ _ => rfl, fun _ _ _ => rfl⟩
theorem sm.tr {P : Nat → Prop} {h h2 h3 : fx_H} (a : sm P h h2) (b : sm P h2 h3) : sm P h h3 :=
  ⟨b.1.trans a.1, fun q k hq => (b.2.1 q k hq).trans (a.2.1 q k hq), fun q k hq => (b.2.2.1 q k hq).trans (a.2.2.1 q k hq), fun q k hq => (b.2.2.2 q k hq).trans (a.2.2.2 q k hq)⟩
theorem sm.mono {P P2 : Nat → Prop} {h h2 : fx_H} (a : sm P h h2) (hP : ∀ q, P q → P2 q) : sm P2 h h2 :=
  ⟨a.1, fun q k hq => a.2.1 q k fun z => hq (hP q z), fun q k hq => a.2.2.1 q k fun z => hq (hP q z), fun q k hq => a.2.2.2 q k fun z => hq (hP q z)⟩
theorem sm.uF {P : Nat → Prop} {h : fx_H} {p k : Nat} {x : Int} (hp : P p) : sm P h (fx_uF h p k x) :=
  ⟨rfl, fun q j hq => by show (if q = p ∧ j = k then x else h.2.1 q j) = _; rw [if_neg]; rintro ⟨rfl, -⟩; exact hq hp, fun _ _ _ => rfl, fun _ _ _ => rfl⟩
theorem sm.uA {P : Nat → Prop} {h : fx_H} {p k : Nat} {x : Int} (hp : P p) : sm P h (fx_uA h p k x) :=
  ⟨rfl, fun _ _ _ => rfl, fun q j hq => by show (if q = p ∧ j = k then x else h.2.2.1 q j) = _; rw [if_neg]; rintro ⟨rfl, -⟩; exact hq hp, fun _ _ _ => rfl⟩
theorem sm.uL {P : Nat → Prop} {h : fx_H} {p k : Nat} {x : Int} (hp : P p) : sm P h (fx_uL h p k x) :=
  ⟨rfl, fun _ _ _ => rfl, fun _ _ _ => rfl, fun q j hq => by show (if q = p ∧ j = k then x else h.2.2.2 q j) = _; rw [if_neg]; rintro ⟨rfl, -⟩; exact hq hp⟩
theorem uF_s (h : fx_H) (p k : Nat) (x : Int) : (fx_uF h p k x).2.1 p k = x := by show (if p = p ∧ k = k then x else _) = x; rw [if_pos ⟨rfl, rfl⟩]
theorem uF_n (h : fx_H) {p k q j : Nat} (x : Int) (hn : ¬ (q = p ∧ j = k)) : (fx_uF h p k x).2.1 q j = h.2.1 q j := by show (if q = p ∧ j = k then x else _) = _; rw [if_neg hn]
theorem uA_s (h : fx_H) (p k : Nat) (x : Int) : (fx_uA h p k x).2.2.1 p k = x := by show (if p = p ∧ k = k then x else _) = x; rw [if_pos ⟨rfl, rfl⟩]
theorem uA_n (h : fx_H) {p k q j : Nat} (x : Int) (hn : ¬ (q = p ∧ j = k)) : (fx_uA h p k x).2.2.1 q j = h.2.2.1 q j := by show (if q = p ∧ j = k then x else _) = _; rw [if_neg hn]
theorem uL_s (h : fx_H) (p k : Nat) (x : Int) : (fx_uL h p k x).2.2.2 p k = x := by show (if p = p ∧ k = k then x else _) = x; rw [if_pos ⟨rfl, rfl⟩]
theorem uL_n (h : fx_H) {p k q j : Nat} (x : Int) (hn : ¬ (q = p ∧ j = k)) : (fx_uL h p k x).2.2.2 q j = h.2.2.2 q j := by show (if q = p ∧ j = k then x else _) = _; rw [if_neg hn]
theorem sm.pic {P : Nat → Prop} {h h2 : fx_H} {p : Nat} (a : sm P h h2) (ok : fp_ok h p) (hp : ¬ P p) : fp_ok h2 p := by
  obtain ⟨h1, h3, h4⟩ := ok
  refine ⟨by rw [a.1]; exact h1, by rw [a.1]; exact h3, ?_⟩
  rw [a.2.1 p 1 hp, a.2.1 p 2 hp, a.2.1 p 3 hp]
  exact h4
theorem sm.px {P : Nat → Prop} {h h2 : fx_H} {p : Nat} (a : sm P h h2) (hp : ¬ P p) (hp1 : ¬ P (p + 1)) (x y : Int) : fp_px h2 p x y = fp_px h p x y := by
  unfold fp_px fp_in
  rw [a.2.1 p 2 hp, a.2.1 p 3 hp, a.2.2.1 (p + 1) _ hp1]
theorem sm.pix {P : Nat → Prop} {h h2 : fx_H} {p : Nat} (a : sm P h h2) (px : fp_pix h p) (hp : ¬ P p) (hp1 : ¬ P (p + 1)) : fp_pix h2 p := by
  intro i hi
  rw [a.2.2.1 (p + 1) _ hp1, a.2.1 p 1 hp]
  exact px i hi
section FILL
variable {l : Launch} {Q : Option Value → fx_H → Prop} {h : fx_H} {q : Nat}
theorem m_fill960 {a : Nat} {u : Int} (hq : h.1[q]? = some (a, .inr (0, 960))) (k : ∀ h2, sm (fun j => j = q) h h2 → h2.2.1 = h.2.1 → (∀ i : Nat, i < 960 → h2.2.2.1 q i = u) → Q none h2) : fx_Mt l M_AR_fill (0, 0) [.ref q, .int (zI u)] h Q := by
  refine e_AR_fill_960 hq ?_
  have loop : ∀ (m n : Nat) (h3 : fx_H), n + m = 960 → sm (fun j => j = q) h h3 → h3.2.1 = h.2.1 → (∀ i : Nat, i < n → h3.2.2.1 q i = u) → fx_V l M_AR_fill (0, 0) Q 0 0 5 [some (.ref q), some (.int (zI u)), some (.int (zI (n : Nat))), some (.int (zI 960))] [] h3 := by
    intro m
    induction m with
    | zero =>
      intro n h3 hn s1 s2 s3
      have : n = 960 := by omega
      subst this
      exact w_AR_fill_5_960 (by rw [s1.1]; exact hq) ⟨by omega, by omega, fun _ => k h3 s1 s2 s3, fun z => absurd (by omega) z⟩
    | succ m ih =>
      intro n h3 hn s1 s2 s3
      refine w_AR_fill_5_960 (by rw [s1.1]; exact hq) ⟨by omega, by omega, fun z => by omega, fun _ => ⟨by omega, by omega, ?_⟩⟩
      have e : ((n : Nat) : Int) + 1 = ((n + 1 : Nat) : Int) := by omega
      rw [e, Int.toNat_natCast]
      refine ih (n + 1) _ (by omega) (s1.tr (sm.uA rfl)) s2 fun i hi => ?_
      by_cases hin : i = n
      · subst hin; exact uA_s _ _ _ _
      · rw [uA_n _ _ (fun z => hin z.2)]; exact s3 i (by omega)
  exact loop 960 0 h rfl sm.rf rfl (fun i hi => by omega)
theorem m_fill9 {a : Nat} {u : Int} (hq : h.1[q]? = some (a, .inr (0, 9))) (k : ∀ h2, sm (fun j => j = q) h h2 → h2.2.1 = h.2.1 → (∀ i : Nat, i < 9 → h2.2.2.1 q i = u) → Q none h2) : fx_Mt l M_AR_fill (0, 0) [.ref q, .int (zI u)] h Q := by
  refine e_AR_fill_9 hq ?_
  have loop : ∀ (m n : Nat) (h3 : fx_H), n + m = 9 → sm (fun j => j = q) h h3 → h3.2.1 = h.2.1 → (∀ i : Nat, i < n → h3.2.2.1 q i = u) → fx_V l M_AR_fill (0, 0) Q 0 0 5 [some (.ref q), some (.int (zI u)), some (.int (zI (n : Nat))), some (.int (zI 9))] [] h3 := by
    intro m
    induction m with
    | zero =>
      intro n h3 hn s1 s2 s3
      have : n = 9 := by omega
      subst this
      exact w_AR_fill_5_9 (by rw [s1.1]; exact hq) ⟨by omega, by omega, fun _ => k h3 s1 s2 s3, fun z => absurd (by omega) z⟩
    | succ m ih =>
      intro n h3 hn s1 s2 s3
      refine w_AR_fill_5_9 (by rw [s1.1]; exact hq) ⟨by omega, by omega, fun z => by omega, fun _ => ⟨by omega, by omega, ?_⟩⟩
      have e : ((n : Nat) : Int) + 1 = ((n + 1 : Nat) : Int) := by omega
      rw [e, Int.toNat_natCast]
      refine ih (n + 1) _ (by omega) (s1.tr (sm.uA rfl)) s2 fun i hi => ?_
      by_cases hin : i = n
      · subst hin; exact uA_s _ _ _ _
      · rw [uA_n _ _ (fun z => hin z.2)]; exact s3 i (by omega)
  exact loop 9 0 h rfl sm.rf rfl (fun i hi => by omega)
theorem m_fill658 {a : Nat} {u : Int} (hq : h.1[q]? = some (a, .inr (0, 658))) (k : ∀ h2, sm (fun j => j = q) h h2 → h2.2.1 = h.2.1 → (∀ i : Nat, i < 658 → h2.2.2.1 q i = u) → Q none h2) : fx_Mt l M_AR_fill (0, 0) [.ref q, .int (zI u)] h Q := by
  refine e_AR_fill_658 hq ?_
  have loop : ∀ (m n : Nat) (h3 : fx_H), n + m = 658 → sm (fun j => j = q) h h3 → h3.2.1 = h.2.1 → (∀ i : Nat, i < n → h3.2.2.1 q i = u) → fx_V l M_AR_fill (0, 0) Q 0 0 5 [some (.ref q), some (.int (zI u)), some (.int (zI (n : Nat))), some (.int (zI 658))] [] h3 := by
    intro m
    induction m with
    | zero =>
      intro n h3 hn s1 s2 s3
      have : n = 658 := by omega
      subst this
      exact w_AR_fill_5_658 (by rw [s1.1]; exact hq) ⟨by omega, by omega, fun _ => k h3 s1 s2 s3, fun z => absurd (by omega) z⟩
    | succ m ih =>
      intro n h3 hn s1 s2 s3
      refine w_AR_fill_5_658 (by rw [s1.1]; exact hq) ⟨by omega, by omega, fun z => by omega, fun _ => ⟨by omega, by omega, ?_⟩⟩
      have e : ((n : Nat) : Int) + 1 = ((n + 1 : Nat) : Int) := by omega
      rw [e, Int.toNat_natCast]
      refine ih (n + 1) _ (by omega) (s1.tr (sm.uA rfl)) s2 fun i hi => ?_
      by_cases hin : i = n
      · subst hin; exact uA_s _ _ _ _
      · rw [uA_n _ _ (fun z => hin z.2)]; exact s3 i (by omega)
  exact loop 658 0 h rfl sm.rf rfl (fun i hi => by omega)
end FILL
theorem m_clear {l : Launch} {Q : Option Value → fx_H → Prop} {h : fx_H} {p : Nat} {g x y : Int} (ok : fp_ok h p) (hg : g = 0 ∨ g = 1) (k : ∀ h2, sm (fun j => j = p ∨ j = p + 1) h h2 → h2.2.1 p 1 = g → h2.2.1 p 2 = x → h2.2.1 p 3 = y → (∀ i : Nat, i < 960 → h2.2.2.1 (p + 1) i = 0) → Q none h2) : fx_Mt l M_PI_clear (0, 0) [.ref p, .int (zI g), .int (zI x), .int (zI y)] h Q := by
  obtain ⟨⟨a, h1⟩, ⟨b, h2⟩, -⟩ := id ok
  refine e_PI_clear h1 h2 ⟨hg, m_fill960 h2 fun h3 s1 s2 s3 => ⟨rfl, s1.1, ?_⟩⟩
  refine k h3 (((sm.uF (Or.inl rfl)).tr ((sm.uF (Or.inl rfl)).tr (sm.uF (Or.inl rfl)))).tr (s1.mono fun q z => Or.inr z)) ?_ ?_ ?_ s3
  · rw [s2, uF_n _ _ (by omega), uF_n _ _ (by omega), uF_s]
  · rw [s2, uF_n _ _ (by omega), uF_s]
  · rw [s2, uF_s]
