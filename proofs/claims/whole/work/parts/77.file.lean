/-! the file as it is written: the class -/
def pd (pp dd : Nat) : Prop := (pp = 27 ∧ dd = 29) ∨ (pp = 29 ∧ dd = 27)
theorem pA {h : fx_H} {a : Nat → Nat} {pp dd : Nat} (hS : h.1 = fx_S0 a pp dd) (q : pd pp dd) : h.1[pp]? = some (a pp, .inl (10, [some (pp + 1), none, none, none])) := by
  rcases q with ⟨rfl, rfl⟩ | ⟨rfl, rfl⟩ <;> rw [hS] <;> rfl
theorem pB {h : fx_H} {a : Nat → Nat} {pp dd : Nat} (hS : h.1 = fx_S0 a pp dd) (q : pd pp dd) : h.1[pp + 1]? = some (a (pp + 1), .inr (0, 960)) := by
  rcases q with ⟨rfl, rfl⟩ | ⟨rfl, rfl⟩ <;> rw [hS] <;> rfl
theorem dA {h : fx_H} {a : Nat → Nat} {pp dd : Nat} (hS : h.1 = fx_S0 a pp dd) (q : pd pp dd) : h.1[dd]? = some (a dd, .inl (10, [some (dd + 1), none, none, none])) := by
  rcases q with ⟨rfl, rfl⟩ | ⟨rfl, rfl⟩ <;> rw [hS] <;> rfl
theorem dB {h : fx_H} {a : Nat → Nat} {pp dd : Nat} (hS : h.1 = fx_S0 a pp dd) (q : pd pp dd) : h.1[dd + 1]? = some (a (dd + 1), .inr (0, 960)) := by
  rcases q with ⟨rfl, rfl⟩ | ⟨rfl, rfl⟩ <;> rw [hS] <;> rfl
theorem wnum_len (b u : Int) (n : Nat) : (wnum b u n).length = n := by simp [wnum]
theorem wnb_R (b u : Int) (n i : Nat) : 0 ≤ wnb b u n i ∧ wnb b u n i < 256 := by unfold wnb; omega
theorem wnum_isB (b u : Int) (n : Nat) : isB (wnum b u n) := fun x hx => by
  unfold wnum at hx
  obtain ⟨i, -, rfl⟩ := List.mem_map.mp hx
  exact wnb_R _ _ _ _
theorem isB_1 {b : Int} (h : 0 ≤ b ∧ b < 256) : isB [b] := fun x hx => by rw [List.mem_singleton] at hx; subst hx; exact h
def whead (b : Int) : List Int := [(if b = 0 then 73 else 77)] ++ [(if b = 0 then 73 else 77)] ++ wnum b 42 2 ++ wnum b 0 4
def stg (b n u : Int) : List Int := wnum b n 2 ++ (wnum b 3 2 ++ (wnum b 1 4 ++ (wnum b u 2 ++ wnum b 0 2)))
def ltg (b n c u : Int) : List Int := wnum b n 2 ++ (wnum b 4 2 ++ (wnum b c 4 ++ wnum b u 4))
def longs (b : Int) (v : Nat → Int) : Nat → Nat → List Int
  | 0, _ => []
  | m + 1, i => wnum b (v i) 4 ++ longs b v m (i + 1)
def patJ (b u : Int) : Nat → Nat → List Int → List Int
  | 0, _, L => L
  | m + 1, i, L => patJ b u m (i + 1) (L.set (4 + i) (wnb b u 4 i))
def wtags (b sc g w t rows m P S : Int) : List Int :=
  wnum b (if sc = 3 then 9 else 8) 2 ++ (stg b 256 w ++ (stg b 257 t ++ (stg b 258 (if g = 0 then 1 else 8) ++ (stg b 259 sc ++ (stg b 262 (if g = 0 then 0 else 1) ++ (ltg b 273 m P ++ (stg b 278 rows ++ (ltg b 279 m S ++ ((if sc = 3 then ltg b 292 1 1 else []) ++ wnum b 0 4)))))))))
def nst (t rows : Int) (i : Nat) : Nat := ((if ((i : Int) + 1) * rows < t then ((i : Int) + 1) * rows else t) - i * rows).toNat
def stp (sc g w t : Int) (f : Int → Int → Int) (rows : Int) (L : List Int) : Nat → List Int
  | 0 => L
  | i + 1 => wst sc g w f (i * rows) (nst t rows i) (stp sc g w t f rows L i)
def wbes (b : Int) (L : List Int) (pl sz : Nat → Int) (m : Nat) : List Int := if m = 1 then L else L ++ longs b pl m 0 ++ longs b sz m 0
def weven (L : List Int) : List Int := if L.length % 2 = 1 then L ++ [0] else L
/-- the whole file -/
def wfile (b sc g w t : Int) (f : Int → Int → Int) (rows : Int) (m : Nat) : List Int :=
  let st := stp sc g w t f rows (whead b)
  let pl : Nat → Int := fun i => (st i).length
  let sz : Nat → Int := fun i => (st (i + 1)).length - (st i).length
  let L := weven (wbes b (st m) pl sz m)
  patJ b L.length 4 0 L ++ wtags b sc g w t rows m (if m = 1 then pl 0 else (st m).length) (if m = 1 then sz 0 else (st m).length + 4 * m)
theorem longs_len (b : Int) (v : Nat → Int) : ∀ (m i : Nat), (longs b v m i).length = 4 * m
  | 0, i => by simp [longs]
  | m + 1, i => by rw [longs, List.length_append, wnum_len, longs_len b v m]; omega
theorem longs_isB (b : Int) (v : Nat → Int) : ∀ (m i : Nat), isB (longs b v m i)
  | 0, i => by intro x hx; simp [longs] at hx
  | m + 1, i => by rw [longs]; exact (wnum_isB _ _ _).app (longs_isB b v m (i + 1))
theorem patJ_len (b u : Int) : ∀ (m i : Nat) (L : List Int), (patJ b u m i L).length = L.length
  | 0, i, L => rfl
  | m + 1, i, L => by rw [patJ, patJ_len b u m (i + 1), List.length_set]
theorem isB.set {L : List Int} (h : isB L) {i : Nat} {x : Int} (hx : 0 ≤ x ∧ x < 256) : isB (L.set i x) := fun b hb => by
  rcases List.mem_or_eq_of_mem_set hb with hb | rfl
  · exact h b hb
  · exact hx
theorem patJ_isB (b u : Int) : ∀ (m i : Nat) (L : List Int), isB L → isB (patJ b u m i L)
  | 0, i, L, h => h
  | m + 1, i, L, h => by rw [patJ]; exact patJ_isB b u m (i + 1) _ (h.set (wnb_R _ _ _ _))
theorem stg_len (b n u : Int) : (stg b n u).length = 12 := by simp [stg, wnum_len]
theorem ltg_len (b n c u : Int) : (ltg b n c u).length = 12 := by simp [ltg, wnum_len]
theorem stg_isB (b n u : Int) : isB (stg b n u) := (wnum_isB _ _ _).app ((wnum_isB _ _ _).app ((wnum_isB _ _ _).app ((wnum_isB _ _ _).app (wnum_isB _ _ _))))
theorem ltg_isB (b n c u : Int) : isB (ltg b n c u) := (wnum_isB _ _ _).app ((wnum_isB _ _ _).app ((wnum_isB _ _ _).app (wnum_isB _ _ _)))
theorem wtags_len (b sc g w t rows m P S : Int) : (wtags b sc g w t rows m P S).length ≤ 114 := by
  unfold wtags
  simp only [List.length_append, wnum_len, stg_len, ltg_len]
  split
  · rw [ltg_len]; omega
  · simp
theorem wtags_isB (b sc g w t rows m P S : Int) : isB (wtags b sc g w t rows m P S) := by
  unfold wtags
  refine (wnum_isB _ _ _).app ((stg_isB _ _ _).app ((stg_isB _ _ _).app ((stg_isB _ _ _).app ((stg_isB _ _ _).app ((stg_isB _ _ _).app ((ltg_isB _ _ _ _).app ((stg_isB _ _ _).app ((ltg_isB _ _ _ _).app (isB.app ?_ (wnum_isB _ _ _))))))))))
  split
  · exact ltg_isB _ _ _ _
  · intro x hx; simp at hx
theorem whead_len (b : Int) : (whead b).length = 8 := by simp [whead, wnum_len]
theorem whead_isB (b : Int) : isB (whead b) := by
  unfold whead
  refine ((((isB_1 ?_).app (isB_1 ?_)).app (wnum_isB _ _ _)).app (wnum_isB _ _ _)) <;> split <;> omega
theorem wbit_ge (s : WS) (b : Int) : s.1.length ≤ (wbit s b).1.length := by
  unfold wbit; split
  · simp
  · exact Nat.le_refl _
theorem wbits_ge (u : Int) : ∀ (n : Nat) (s : WS), s.1.length ≤ (wbits s u n).1.length
  | 0, s => Nat.le_refl _
  | n + 1, s => Nat.le_trans (wbit_ge s _) (wbits_ge u n _)
theorem wrest_ge (s : WS) : s.1.length ≤ (wrest s).1.length := by
  unfold wrest; split
  · exact Nat.le_refl _
  · simp
theorem tabE_ge {B : Nat → Int} : ∀ (m i n : Nat) (D1 D2 : Nat → Int) (e since : Int) (s : WS), s.1.length ≤ (tabE B m i n D1 D2 e since s).1.length
  | 0, i, n, D1, D2, e, since, s => by rw [tabE]; exact Nat.le_trans (wbits_ge _ _ _) (wbits_ge _ _ _)
  | m + 1, i, n, D1, D2, e, since, s => by
    rw [tabE]; split
    · exact Nat.le_trans (wbits_ge _ _ _) (tabE_ge m _ _ _ _ _ _ _)
    · exact tabE_ge m _ _ _ _ _ _ _
theorem wcode_ge (s : WS) (u : Int) : s.1.length ≤ (wcode s u).1.length := wbits_ge _ _ _
theorem byI_ge {r : Int → Int} {w : Int} : ∀ (m : Nat) (x c : Int) (s : WS), s.1.length ≤ (byI r w m x c s).1.length
  | 0, x, c, s => Nat.le_refl _
  | m + 1, x, c, s => by
    rw [byI]; split
    · exact Nat.le_refl _
    · exact Nat.le_trans (wcode_ge _ _) (byI_ge m _ _ _)
theorem byA_ge {r o : Int → Int} {w : Int} : ∀ (m : Nat) (x c : Int) (s : WS), s.1.length ≤ (byA r o w m x c s).1.length
  | 0, x, c, s => Nat.le_refl _
  | m + 1, x, c, s => by
    rw [byA]; split
    · exact Nat.le_refl _
    · split
      · exact Nat.le_trans (wcode_ge _ _) (byA_ge m _ _ _)
      · split
        · exact Nat.le_trans (wcode_ge _ _) (byA_ge m _ _ _)
        · exact Nat.le_trans (Nat.le_trans (Nat.le_trans (wcode_ge _ _) (wcode_ge _ _)) (wcode_ge _ _)) (byA_ge m _ _ _)
theorem faxL_ge {mk w : Int} {f : Int → Int → Int} (top y : Int) (s : WS) : s.1.length ≤ (faxL mk w f top y s).1.length := by
  unfold faxL; split
  · exact byA_ge _ _ _ _
  · split
    · exact Nat.le_trans (Nat.le_trans (wbits_ge _ _ _) (wbit_ge _ _)) (byI_ge _ _ _ _)
    · exact Nat.le_trans (Nat.le_trans (wbits_ge _ _ _) (wbit_ge _ _)) (byA_ge _ _ _ _)
theorem faxW_ge {mk w : Int} {f : Int → Int → Int} {top : Int} : ∀ (m : Nat) (y : Int) (s : WS), s.1.length ≤ (faxW mk w f top m y s).1.length
  | 0, y, s => by
    rw [faxW]
    refine Nat.le_trans ?_ (wrest_ge _)
    split
    · exact Nat.le_trans (wbits_ge _ _ _) (wbits_ge _ _ _)
    · exact Nat.le_refl _
  | m + 1, y, s => by rw [faxW]; exact Nat.le_trans (faxL_ge _ _ _) (faxW_ge m _ _)
/-- how strips lie -/
def rOK (t rows : Int) (m : Nat) : Prop := 1 ≤ rows ∧ rows ≤ t ∧ (m : Int) = (t + rows - 1) / rows
theorem rOK.lt {t rows : Int} {m : Nat} (h : rOK t rows m) {i : Nat} (hi : i < m) : (i : Int) * rows < t := by
  obtain ⟨h1, h2, h3⟩ := h
  have h4 : (m : Int) * rows ≤ t + rows - 1 := by rw [h3]; exact Int.ediv_mul_le _ (by omega)
  have h5 : ((i : Int) + 1) * rows ≤ m * rows := Int.mul_le_mul_of_nonneg_right (by omega) (by omega)
  rw [Int.add_mul, Int.one_mul] at h5
  omega
theorem rOK.ge {t rows : Int} {m : Nat} (h : rOK t rows m) : t ≤ (m : Int) * rows := by
  obtain ⟨h1, h2, h3⟩ := h
  have := Int.lt_ediv_add_one_mul_self (t + rows - 1) (show 0 < rows by omega)
  rw [← h3, Int.add_mul, Int.one_mul] at this
  omega
theorem rOK.le {t rows : Int} {m : Nat} (h : rOK t rows m) : 1 ≤ m ∧ (m : Int) ≤ t := by
  have h0 := h.ge
  constructor
  · rcases Nat.eq_zero_or_pos m with hz | hz
    · subst hz; have := h.1; have := h.2.1; simp at h0; omega
    · exact hz
  · rcases Nat.eq_zero_or_pos m with hz | hz
    · have := h.1; have := h.2.1; omega
    · have h1 := h.lt (i := m - 1) (by omega)
      have h2 : ((m - 1 : Nat) : Int) * 1 ≤ ((m - 1 : Nat) : Int) * rows := Int.mul_le_mul_of_nonneg_left h.1 (by omega)
      omega
theorem nst_R {t rows : Int} {m : Nat} (h : rOK t rows m) {i : Nat} (hi : i < m) : 1 ≤ nst t rows i ∧ (i : Int) * rows + nst t rows i ≤ t ∧ (i : Int) * rows + nst t rows i = (if ((i : Int) + 1) * rows < t then ((i : Int) + 1) * rows else t) := by
  have h1 := h.lt hi
  have h2 := h.1
  unfold nst
  have h3 : ((i : Int) + 1) * rows = i * rows + rows := by rw [Int.add_mul, Int.one_mul]
  rw [h3]
  split <;> omega
theorem stp_R {sc g w t : Int} {f : Int → Int → Int} {rows : Int} {m : Nat} {L : List Int} (hp : pOK g w t f) (hs : sOK sc g) (h : rOK t rows m) (hL : L.length = 8) (hB : isB L) : ∀ i : Nat, i ≤ m → isB (stp sc g w t f rows L i) ∧ 8 ≤ (stp sc g w t f rows L i).length ∧ ((stp sc g w t f rows L i).length : Int) ≤ 8 + 68 * (if (i : Int) * rows < t then i * rows else t)
  | 0, _ => by
    refine ⟨hB, by rw [stp]; omega, ?_⟩
    rw [stp, hL]; split <;> have := h.1 <;> have := h.2.1 <;> simp <;> omega
  | i + 1, hi => by
    have ih := stp_R hp hs h hL hB i (by omega)
    have hn := nst_R h (show i < m by omega)
    have hl := h.lt (show i < m by omega)
    have := wst_R (x := (i : Int) * rows) hp hs hn.1 ih.1
    rw [if_pos hl] at ih
    rw [stp]
    refine ⟨this.1, ?_, ?_⟩
    · have : (stp sc g w t f rows L i).length ≤ (wst sc g w f (↑i * rows) (nst t rows i) (stp sc g w t f rows L i)).length := by
        unfold wst
        split
        · simp
        · split
          · simp
          · split
            · have h9 := tabE_ge (B := fun j => (sb g w f (↑i * rows) (nst t rows i)).getD j 0) (nst t rows i * (rbn g w).toNat - 1) 1 0 (fun _ => 0) (fun _ => 0) ((sb g w f (↑i * rows) (nst t rows i)).getD 0 0) 0 (wbits (stp sc g w t f rows L i, []) 256 9)
              exact Nat.le_trans (wbits_ge 256 9 (stp sc g w t f rows L i, [])) (Nat.le_trans h9 (wrest_ge _))
            · exact faxW_ge _ _ (stp sc g w t f rows L i, [])
      omega
    · have e : (((i + 1 : Nat) : Int)) = (i : Int) + 1 := by omega
      rw [e, ← hn.2.2]
      omega
