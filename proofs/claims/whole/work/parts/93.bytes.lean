/-! strips of bytes: what they paint, and the program's painting -/
/-- the fill bits of the byte i of a row are 0 -/
def flO (g w i b : Int) : Prop := g = 0 → ∀ j : Int, 0 ≤ j → j < 8 → fp_bit b j = 1 → 8 * i + j < w
def flA (g w : Int) (B : List Int) : Prop := ∀ k : Nat, k < B.length → flO g w ((k : Int) % rbn g w) (B.getD k 0)
def bix (g x : Int) : Int := if g = 0 then x / 8 else x
def bpx (g : Int) (b x : Int) : Int := if g = 0 then fp_bit b (x % 8) else b
/-- f with the bytes B painted from the row top on -/
def dF (g w : Int) (f : Int → Int → Int) (top : Int) (B : List Int) : Int → Int → Int := fun x y =>
  if 0 ≤ x ∧ x < w ∧ top ≤ y ∧ (y - top) * rbn g w + bix g x < B.length then bpx g (B.getD ((y - top) * rbn g w + bix g x).toNat 0) x else f x y
theorem getD_app1 {B : List Int} {b : Int} {k : Nat} (h : k < B.length) : (B ++ [b]).getD k 0 = B.getD k 0 := by
  rw [List.getD_eq_getElem?_getD, List.getD_eq_getElem?_getD, List.getElem?_append_left h]
theorem getD_app2 {B : List Int} {b : Int} : (B ++ [b]).getD B.length 0 = b := by
  rw [List.getD_eq_getElem?_getD, List.getElem?_append_right (Nat.le_refl _)]; simp
theorem flA_app {g w : Int} {B : List Int} {b : Int} : flA g w (B ++ [b]) ↔ flA g w B ∧ flO g w ((B.length : Int) % rbn g w) b := by
  unfold flA
  constructor
  · intro h
    refine ⟨fun k hk => ?_, ?_⟩
    · have := h k (by rw [List.length_append]; omega)
      rw [getD_app1 hk] at this; exact this
    · have := h B.length (by rw [List.length_append]; simp)
      rw [getD_app2] at this; exact this
  · rintro ⟨h1, h2⟩ k hk
    rw [List.length_append, List.length_singleton] at hk
    by_cases e : k = B.length
    · subst e; rw [getD_app2]; exact h2
    · rw [getD_app1 (by omega)]; exact h1 k (by omega)
theorem dF_nil (g w : Int) (f : Int → Int → Int) (top : Int) (hn : 0 ≤ rbn g w) : dF g w f top [] = f := by
  funext x y
  unfold dF
  rw [if_neg]
  rintro ⟨h1, h2, h3, h4⟩
  have h5 : 0 ≤ (y - top) * rbn g w := Int.mul_nonneg (by omega) hn
  have h6 : 0 ≤ bix g x := by unfold bix; split <;> omega
  simp at h4
  omega
theorem bix_R {g w x : Int} (hg : g = 0 ∨ g = 1) (h : 0 ≤ x) (hw : x < w) : 0 ≤ bix g x ∧ bix g x < rbn g w := by
  unfold bix rbn
  rcases hg with rfl | rfl
  · rw [if_pos rfl, if_pos rfl]; omega
  · rw [if_neg (by omega), if_neg (by omega)]; omega
theorem fp_bit_01 (b j : Int) : fp_bit b j = 0 ∨ fp_bit b j = 1 := by unfold fp_bit; omega
theorem row_inj {n y i y2 i2 : Int} (h1 : 0 ≤ i) (h2 : i < n) (h3 : 0 ≤ i2) (h4 : i2 < n) : (y * n + i < y2 * n + i2 + 1 ↔ (y < y2 ∨ (y = y2 ∧ i ≤ i2))) := by
  constructor
  · intro h
    by_cases hy : y2 < y
    · have h5 : (y2 + 1) * n ≤ y * n := Int.mul_le_mul_of_nonneg_right (by omega) (by omega)
      rw [Int.add_mul] at h5
      omega
    · by_cases e : y = y2
      · subst e; omega
      · omega
  · rintro (h | ⟨rfl, h⟩)
    · have h5 : (y + 1) * n ≤ y2 * n := Int.mul_le_mul_of_nonneg_right (by omega) (by omega)
      rw [Int.add_mul] at h5
      omega
    · omega
theorem dF_pOK {g w t : Int} {f : Int → Int → Int} {top : Int} {B : List Int} (o : pOK g w t f) (hB : isB B) (h0 : 0 ≤ top) (hL : (B.length : Int) ≤ (t - top) * rbn g w) : pOK g w t (dF g w f top B) := by
  have hr := o.rb
  obtain ⟨o1, o2, o3, o4, o5, o6, o7, o8⟩ := o
  refine ⟨o1, o2, o3, o4, o5, o6, fun x y => ?_, fun x y hn => ?_⟩
  · unfold dF
    split
    · unfold bpx
      have hb := hB.get ((y - top) * rbn g w + bix g x).toNat
      have hbit := fp_bit_01 (B.getD ((y - top) * rbn g w + bix g x).toNat 0) (x % 8)
      by_cases hg : g = 0
      · rw [if_pos hg, if_pos hg]; omega
      · rw [if_neg hg, if_neg hg]; omega
    · exact o7 x y
  · unfold dF
    rw [if_neg]
    · exact o8 x y hn
    · rintro ⟨h1, h2, h3, h4⟩
      refine hn ⟨h1, h2, by omega, ?_⟩
      by_cases hyt : y < t
      · exact hyt
      · have h5 : (t - top) * rbn g w ≤ (y - top) * rbn g w := Int.mul_le_mul_of_nonneg_right (by omega) (by omega)
        have := (bix_R o1 h1 h2).1
        omega
/-- one byte more -/
theorem dF_snoc {g w t : Int} {f : Int → Int → Int} {top : Int} {B : List Int} {b y i : Int} (hg : g = 0 ∨ g = 1) (hn : 1 ≤ rbn g w) (hy : top ≤ y) (hi : 0 ≤ i) (hi2 : i < rbn g w) (hB : (B.length : Int) = (y - top) * rbn g w + i) (x v : Int) (hx : 0 ≤ x) (hxw : x < w) :
    dF g w f top (B ++ [b]) x v = (if v = y then (if g = 0 then (if 8 * i ≤ x ∧ x < 8 * i + 8 then some (fp_bit b (x - 8 * i)) else none) else if x = i then some b else none) else none).getD (dF g w f top B x v) := by
  have hb := bix_R hg hx hxw
  have key := row_inj (y := v - top) (i := bix g x) (y2 := y - top) (i2 := i) hb.1 hb.2 hi hi2
  have hit : (v = y ∧ bix g x = i) ↔ (v - top) * rbn g w + bix g x = B.length := by
    rw [hB]
    constructor
    · rintro ⟨rfl, h⟩; rw [h]
    · intro h
      have k1 := key.mp (by omega)
      have k2 := (row_inj (y := y - top) (i := i) (y2 := v - top) (i2 := bix g x) hi hi2 hb.1 hb.2).mp (by omega)
      omega
  unfold dF
  rw [List.length_append, List.length_singleton]
  by_cases hq : v = y ∧ bix g x = i
  · have he := hit.mp hq
    rw [if_pos ⟨hx, hxw, by omega, by omega⟩, he]
    have e1 : ((B.length : Int)).toNat = B.length := by omega
    rw [e1, getD_app2]
    obtain ⟨rfl, h9⟩ := hq
    rw [if_pos rfl]
    unfold bix at h9
    unfold bpx
    by_cases h0 : g = 0
    · rw [if_pos h0] at h9
      rw [if_pos h0, if_pos h0, if_pos (by omega)]
      have e2 : x % 8 = x - 8 * i := by omega
      rw [e2]; rfl
    · rw [if_neg h0] at h9
      rw [if_neg h0, if_neg h0, if_pos h9]; rfl
  · have hne : ¬ (v - top) * rbn g w + bix g x = B.length := fun e => hq (hit.mpr e)
    have e0 : (if v = y then (if g = 0 then (if 8 * i ≤ x ∧ x < 8 * i + 8 then some (fp_bit b (x - 8 * i)) else none) else if x = i then some b else none) else none) = (none : Option Int) := by
      by_cases hv : v = y
      · rw [if_pos hv]
        unfold bix at hq
        by_cases h0 : g = 0
        · rw [if_pos h0] at hq
          rw [if_pos h0, if_neg (fun q => hq ⟨hv, by omega⟩)]
        · rw [if_neg h0] at hq
          rw [if_neg h0, if_neg (fun q => hq ⟨hv, q⟩)]
      · rw [if_neg hv]
    rw [e0, Option.getD_none]
    by_cases hp : 0 ≤ x ∧ x < w ∧ top ≤ v ∧ (v - top) * rbn g w + bix g x < B.length
    · have h5 : 0 ≤ (v - top) * rbn g w := Int.mul_nonneg (by omega) (by omega)
      rw [if_pos hp, if_pos ⟨hx, hxw, hp.2.2.1, by omega⟩, getD_app1 (by omega)]
    · rw [if_neg hp, if_neg]
      rintro ⟨h1, h2, h3, h4⟩
      exact hp ⟨h1, h2, h3, by omega⟩
theorem fp_pix_pt {h h2 : fx_H} {p : Nat} {F : Int → Int → Option Int} (ok : fp_ok h p) (px : fp_pix h p) (pt : fp_pt h h2 p F) (hF : ∀ x y u, F x y = some u → 0 ≤ u ∧ u ≤ (if h.2.1 p 1 = 0 then 1 else 255)) : fp_pix h2 p := by
  intro i hi
  have hF1 : h2.2.1 = h.2.1 := pt.2.1
  rw [hF1]
  obtain ⟨-, -, hg, hw1, hw2, hh1, hh2⟩ := id ok
  by_cases ht : h.2.1 p 2 * h.2.1 p 3 ≤ i
  · rw [pt.2.2.1 i ht]; exact px i hi
  · have hd : (i : Int) / h.2.1 p 2 < h.2.1 p 3 := Int.ediv_lt_of_lt_mul (by omega) (by rw [Int.mul_comm]; omega)
    have hm0 := Int.emod_nonneg (i : Int) (show h.2.1 p 2 ≠ 0 by omega)
    have hm1 := Int.emod_lt_of_pos (i : Int) (show 0 < h.2.1 p 2 by omega)
    have hd0 : 0 ≤ (i : Int) / h.2.1 p 2 := Int.ediv_nonneg (by omega) (by omega)
    have hin : fp_in h p ((i : Int) % h.2.1 p 2) ((i : Int) / h.2.1 p 2) := ⟨hm0, hm1, hd0, hd⟩
    have e := pt.2.2.2 _ _ hin
    have e1 : fp_px h2 p ((i : Int) % h.2.1 p 2) ((i : Int) / h.2.1 p 2) = h2.2.2.1 (p + 1) i := by
      unfold fp_px
      rw [if_pos ((pt.in _ _).mpr hin), hF1]
      have e2 : (i : Int) / h.2.1 p 2 * h.2.1 p 2 + (i : Int) % h.2.1 p 2 = i := by rw [Int.mul_comm]; exact Int.mul_ediv_add_emod (i : Int) (h.2.1 p 2)
      rw [e2]; rfl
    rw [← e1, e]
    have hpx := fp_px_R ok px ((i : Int) % h.2.1 p 2) ((i : Int) / h.2.1 p 2)
    cases hc : F ((i : Int) % h.2.1 p 2) ((i : Int) / h.2.1 p 2) with
    | none => exact hpx
    | some u => exact hF _ _ u hc
section BY9
variable {l : Launch} {Q : Option Value → fx_H → Prop} {h : fx_H} {a : Nat → Nat} {pp dd p : Nat} {L : List Int} {b q e z : Int} {g w t top : Int} {f : Int → Int → Int} {B : List Int}
theorem m_paintD {y i u : Int} (cp : cP h p g w t (dF g w f top B)) (of : pOK g w t f) (hB : isB B) (h0 : 0 ≤ top) (hy : top ≤ y) (hyt : y < t) (hi : 0 ≤ i) (hi2 : i < rbn g w) (hBl : (B.length : Int) = (y - top) * rbn g w + i) (hu : 0 ≤ u) (hu2 : u < 256) (k1 : flO g w i u → ∀ h2, sm (fun j => j = p + 1) h h2 → cP h2 p g w t (dF g w f top (B ++ [u])) → Q (some (.int (zI 1))) h2) (k0 : ¬ flO g w i u → ∀ h2, sm (fun j => j = p + 1) h h2 → Q (some (.int (zI 0))) h2) : fx_Mt l M_PI_paintRowByte (0, 0) [.ref p, .int (zI y), .int (zI i), .int (zI u)] h Q := by
  have hr := of.rb
  have hg := of.1
  have hw40 : w ≤ 40 := of.2.2.1
  have hrn : (B.length : Int) + 1 ≤ (t - top) * rbn g w := by
    have h5 : (y - top + 1) * rbn g w ≤ (t - top) * rbn g w := Int.mul_le_mul_of_nonneg_right (by omega) (by omega)
    rw [Int.add_mul, Int.one_mul] at h5
    omega
  have ob := dF_pOK (B := B ++ [u]) of (hB.app (fun b hb => by rw [List.mem_singleton] at hb; omega)) h0 (by rw [List.length_append, List.length_singleton]; omega)
  obtain ⟨c1, c2, c3, rfl, rfl, rfl, c7, c8⟩ := cp
  refine m_paintRowByte c1 (by omega) hyt hi (by omega) hu hu2 (fun hf h2 pt => k1 hf h2 pt.1 ⟨pt.ok c1, ?_, c3, ?_, ?_, ?_, fun x v => ?_, ob⟩) (fun hg0 hex h2 m2 _ _ => k0 (fun hf => ?_) h2 m2)
  · refine fp_pix_pt c1 c2 pt fun x v w9 hw9 => ?_
    by_cases hv : v = y
    · rw [if_pos hv] at hw9
      by_cases hg0 : h.2.1 p 1 = 0
      · rw [if_pos hg0] at hw9 ⊢
        split at hw9
        · injection hw9 with hw9
          have := fp_bit_01 u (x - 8 * i)
          omega
        · exact absurd hw9 (by simp)
      · rw [if_neg hg0] at hw9 ⊢
        split at hw9
        · injection hw9 with hw9
          omega
        · exact absurd hw9 (by simp)
    · rw [if_neg hv] at hw9
      exact absurd hw9 (by simp)
  · rw [pt.2.1]
  · rw [pt.2.1]
  · rw [pt.2.1]
  · by_cases hin : fp_in h p x v
    · rw [pt.2.2.2 x v hin, c7 x v, dF_snoc (t := h.2.1 p 3) hg hr.1 hy hi hi2 hBl x v hin.1 hin.2.1]
    · have e1 : fp_px h2 p x v = 0 := by unfold fp_px; rw [if_neg (fun q9 => hin ((pt.in x v).mp q9))]
      rw [e1]
      exact (ob.2.2.2.2.2.2.2 x v hin).symm
  · obtain ⟨j, j0, j1, j2, j3⟩ := hex
    exact j3 (hf hg0 j j0 j1 j2)
end BY9
