/-! what is written: bytes, and bits that wait -/
abbrev WS : Type := List Int × List Int
def bv (w : List Int) : Int := w.foldl (fun a b => 2 * a + b) 0
theorem bv_snoc (w : List Int) (b : Int) : bv (w ++ [b]) = 2 * bv w + b := by unfold bv; rw [List.foldl_append]; rfl
def wbit (s : WS) (b : Int) : WS := if s.2.length = 7 then (s.1 ++ [bv (s.2 ++ [b])], []) else (s.1, s.2 ++ [b])
def wbits (s : WS) (u : Int) : Nat → WS
  | 0 => s
  | n + 1 => wbits (wbit s (u / 2 ^ n % 2)) u n
def wrest (s : WS) : WS := if s.2 = [] then s else (s.1 ++ [bv s.2 * 2 ^ (8 - s.2.length)], [])
/-- bytes are bytes, bits are bits, fewer than eight wait -/
def isW (s : WS) : Prop := (∀ b ∈ s.1, 0 ≤ b ∧ b < 256) ∧ (∀ b ∈ s.2, b = 0 ∨ b = 1) ∧ s.2.length < 8
def tb (s : WS) : Nat := 8 * s.1.length + s.2.length
theorem bv_R_aux : ∀ (w : List Int) (acc : Int), 0 ≤ acc → (∀ b ∈ w, b = 0 ∨ b = 1) → 0 ≤ w.foldl (fun a b => 2 * a + b) acc ∧ w.foldl (fun a b => 2 * a + b) acc < (acc + 1) * 2 ^ w.length
  | [], acc, ha, _ => ⟨ha, by simp; omega⟩
  | b :: w, acc, ha, hw => by
    have hb := hw b List.mem_cons_self
    have ih := bv_R_aux w (2 * acc + b) (by omega) fun x hx => hw x (List.mem_cons_of_mem _ hx)
    have hp := two_pow_pos w.length
    have h3 : (2 : Int) ^ (w.length + 1) = 2 * 2 ^ w.length := by rw [Int.pow_succ]; omega
    have h4 : (2 * acc + b + 1) * 2 ^ w.length ≤ (2 * (acc + 1)) * 2 ^ w.length := Int.mul_le_mul_of_nonneg_right (by omega) (by omega)
    rw [List.foldl_cons, List.length_cons, h3, ← Int.mul_assoc, Int.mul_comm (acc + 1) 2]
    omega
theorem bv_R (w : List Int) (hw : ∀ b ∈ w, b = 0 ∨ b = 1) : 0 ≤ bv w ∧ bv w < 2 ^ w.length := by
  have := bv_R_aux w 0 (Int.le_refl _) hw
  rw [Int.zero_add, Int.one_mul] at this
  exact this
theorem tb_bit {s : WS} (h : s.2.length < 8) (b : Int) : tb (wbit s b) = tb s + 1 := by
  unfold wbit tb
  split
  · rename_i h7; simp [h7]; omega
  · simp; omega
theorem isW_bit {s : WS} (h : isW s) {b : Int} (hb : b = 0 ∨ b = 1) : isW (wbit s b) := by
  obtain ⟨h1, h2, h3⟩ := h
  have h4 : ∀ x ∈ s.2 ++ [b], x = 0 ∨ x = 1 := by
    intro x hx
    rcases List.mem_append.mp hx with hx | hx
    · exact h2 x hx
    · rw [List.mem_singleton] at hx; subst hx; exact hb
  unfold wbit
  split
  · rename_i h7
    have := bv_R _ h4
    rw [List.length_append, h7] at this
    refine ⟨fun x hx => ?_, fun x hx => by simp at hx, by simp⟩
    rcases List.mem_append.mp hx with hx | hx
    · exact h1 x hx
    · rw [List.mem_singleton] at hx; subst hx
      simp at this
      omega
  · exact ⟨h1, h4, by simp; omega⟩
theorem tb_bits {u : Int} : ∀ (n : Nat) {s : WS}, isW s → tb (wbits s u n) = tb s + n
  | 0, s, _ => rfl
  | n + 1, s, h => by
    have hb : u / 2 ^ n % 2 = 0 ∨ u / 2 ^ n % 2 = 1 := by omega
    rw [wbits, tb_bits n (isW_bit h hb), tb_bit h.2.2]
    omega
theorem isW_bits {u : Int} : ∀ (n : Nat) {s : WS}, isW s → isW (wbits s u n)
  | 0, s, h => h
  | n + 1, s, h => by
    have hb : u / 2 ^ n % 2 = 0 ∨ u / 2 ^ n % 2 = 1 := by omega
    rw [wbits]
    exact isW_bits n (isW_bit h hb)
theorem zor_add {a b : Int} {k : Nat} (ha : 0 ≤ a) (hb : 0 ≤ b) (hb2 : b < 2 ^ k) : zor (a * 2 ^ k) b = a * 2 ^ k + b := by
  unfold zor
  have h1 : (a * 2 ^ k).toNat = 2 ^ k * a.toNat := by
    have : ((2 ^ k * a.toNat : Nat) : Int) = a * 2 ^ k := by
      rw [Int.natCast_mul, Int.natCast_pow, Int.toNat_of_nonneg ha, Int.mul_comm]; rfl
    omega
  have h0 : ((2 ^ k : Nat) : Int) = 2 ^ k := by rw [Int.natCast_pow]; rfl
  have h2 : b.toNat < 2 ^ k := by omega
  rw [h1, ← Nat.two_pow_add_eq_or_of_lt h2]
  have h3 : ((2 ^ k * a.toNat : Nat) : Int) = a * 2 ^ k := by
    rw [Int.natCast_mul, Int.natCast_pow, Int.toNat_of_nonneg ha, Int.mul_comm]; rfl
  omega
theorem zor_sh {a b : Int} {m : Nat} (ha : 0 ≤ a) (hb : b = 0 ∨ b = 1) : zor (a * 2 ^ (m + 1)) (b * 2 ^ m) = (2 * a + b) * 2 ^ m := by
  have hp := two_pow_pos m
  have h3 : (2 : Int) ^ (m + 1) = 2 * 2 ^ m := by rw [Int.pow_succ]; omega
  rw [zor_add ha]
  · rw [h3, Int.add_mul, Int.mul_comm 2 a, Int.mul_assoc]
  · rcases hb with rfl | rfl <;> omega
  · rw [h3]; rcases hb with rfl | rfl <;> omega
theorem zor_0 {a : Int} (ha : 0 ≤ a) : zor 0 a = a := by
  unfold zor; simp; omega
