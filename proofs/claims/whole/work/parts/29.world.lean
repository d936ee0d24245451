/-- the world behind the constructors -/
def fx_S0 (a : Nat → Nat) (pp dd : Nat) : fx_S := [(a 0, .inl (0, [some 1, some 3, some 11, some 13, some 14, some 16, some 23, some 24, some 25, some 26, some pp, some dd, none, none, none, none, none])), (a 1, .inl (1, [some 2, none, none, none])), (a 2, .inr (0, 2000)), (a 3, .inl (2, [some 1, none, none])), (a 4, .inl (3, [some 1, some 3, some 5, some 7, some 9])), (a 5, .inl (4, [some 6])), (a 6, .inr (0, 120)), (a 7, .inl (4, [some 8])), (a 8, .inr (0, 120)), (a 9, .inl (4, [some 10])), (a 10, .inr (0, 120)), (a 11, .inl (5, [some 1, some 12, none, none, none, none, none, none])), (a 12, .inr (0, 9)), (a 13, .inl (6, [some 1, some 3])), (a 14, .inl (7, [some 1, some 3, some 15])), (a 15, .inr (0, 20)), (a 16, .inl (8, [some 1, some 3, some 17, some 18, some 19, some 20, some 21, some 22, none, none])), (a 17, .inr (0, 400)), (a 18, .inr (0, 658)), (a 19, .inr (0, 658)), (a 20, .inr (0, 658)), (a 21, .inr (0, 658)), (a 22, .inr (0, 658)), (a 23, .inl (9, [none, some 4, some 1, some 3])), (a 24, .inl (9, [none, some 4, some 1, some 3])), (a 25, .inr (0, 24)), (a 26, .inr (0, 24)), (a 27, .inl (10, [some 28, none, none, none])), (a 28, .inr (0, 960)), (a 29, .inl (10, [some 30, none, none, none])), (a 30, .inr (0, 960)), (a 31, .inl (11, [none, none, none, none, some 32, none, some 33, none, none, none, none, none, none, none, none, none, none, some 34, none, none, none, none, none, some 35, some 36, some 37, some 38, none, none, some 39, some 40, some 41, some 42, some 43, some 44, some 45, some 46])), (a 32, .inr (0, 960)), (a 33, .inr (0, 2000)), (a 34, .inr (0, 960)), (a 35, .inr (0, 84)), (a 36, .inr (0, 40)), (a 37, .inr (0, 40)), (a 38, .inr (0, 400)), (a 39, .inr (0, 700)), (a 40, .inr (0, 700)), (a 41, .inr (0, 24)), (a 42, .inr (0, 24)), (a 43, .inr (1, 9)), (a 44, .inr (0, 9)), (a 45, .inr (2, 9)), (a 46, .inr (2, 9)), (a 47, .inr (2, 1))]
theorem at_0 {h : fx_H} {a : Nat → Nat} {pp dd : Nat} (hS : h.1 = fx_S0 a pp dd) : h.1[0]? = some (a 0, .inl (0, [some 1, some 3, some 11, some 13, some 14, some 16, some 23, some 24, some 25, some 26, some pp, some dd, none, none, none, none, none])) := by rw [hS]; rfl
theorem at_1 {h : fx_H} {a : Nat → Nat} {pp dd : Nat} (hS : h.1 = fx_S0 a pp dd) : h.1[1]? = some (a 1, .inl (1, [some 2, none, none, none])) := by rw [hS]; rfl
theorem at_2 {h : fx_H} {a : Nat → Nat} {pp dd : Nat} (hS : h.1 = fx_S0 a pp dd) : h.1[2]? = some (a 2, .inr (0, 2000)) := by rw [hS]; rfl
theorem at_3 {h : fx_H} {a : Nat → Nat} {pp dd : Nat} (hS : h.1 = fx_S0 a pp dd) : h.1[3]? = some (a 3, .inl (2, [some 1, none, none])) := by rw [hS]; rfl
theorem at_4 {h : fx_H} {a : Nat → Nat} {pp dd : Nat} (hS : h.1 = fx_S0 a pp dd) : h.1[4]? = some (a 4, .inl (3, [some 1, some 3, some 5, some 7, some 9])) := by rw [hS]; rfl
theorem at_5 {h : fx_H} {a : Nat → Nat} {pp dd : Nat} (hS : h.1 = fx_S0 a pp dd) : h.1[5]? = some (a 5, .inl (4, [some 6])) := by rw [hS]; rfl
theorem at_6 {h : fx_H} {a : Nat → Nat} {pp dd : Nat} (hS : h.1 = fx_S0 a pp dd) : h.1[6]? = some (a 6, .inr (0, 120)) := by rw [hS]; rfl
theorem at_7 {h : fx_H} {a : Nat → Nat} {pp dd : Nat} (hS : h.1 = fx_S0 a pp dd) : h.1[7]? = some (a 7, .inl (4, [some 8])) := by rw [hS]; rfl
theorem at_8 {h : fx_H} {a : Nat → Nat} {pp dd : Nat} (hS : h.1 = fx_S0 a pp dd) : h.1[8]? = some (a 8, .inr (0, 120)) := by rw [hS]; rfl
theorem at_9 {h : fx_H} {a : Nat → Nat} {pp dd : Nat} (hS : h.1 = fx_S0 a pp dd) : h.1[9]? = some (a 9, .inl (4, [some 10])) := by rw [hS]; rfl
theorem at_10 {h : fx_H} {a : Nat → Nat} {pp dd : Nat} (hS : h.1 = fx_S0 a pp dd) : h.1[10]? = some (a 10, .inr (0, 120)) := by rw [hS]; rfl
theorem at_11 {h : fx_H} {a : Nat → Nat} {pp dd : Nat} (hS : h.1 = fx_S0 a pp dd) : h.1[11]? = some (a 11, .inl (5, [some 1, some 12, none, none, none, none, none, none])) := by rw [hS]; rfl
theorem at_12 {h : fx_H} {a : Nat → Nat} {pp dd : Nat} (hS : h.1 = fx_S0 a pp dd) : h.1[12]? = some (a 12, .inr (0, 9)) := by rw [hS]; rfl
theorem at_13 {h : fx_H} {a : Nat → Nat} {pp dd : Nat} (hS : h.1 = fx_S0 a pp dd) : h.1[13]? = some (a 13, .inl (6, [some 1, some 3])) := by rw [hS]; rfl
theorem at_14 {h : fx_H} {a : Nat → Nat} {pp dd : Nat} (hS : h.1 = fx_S0 a pp dd) : h.1[14]? = some (a 14, .inl (7, [some 1, some 3, some 15])) := by rw [hS]; rfl
theorem at_15 {h : fx_H} {a : Nat → Nat} {pp dd : Nat} (hS : h.1 = fx_S0 a pp dd) : h.1[15]? = some (a 15, .inr (0, 20)) := by rw [hS]; rfl
theorem at_16 {h : fx_H} {a : Nat → Nat} {pp dd : Nat} (hS : h.1 = fx_S0 a pp dd) : h.1[16]? = some (a 16, .inl (8, [some 1, some 3, some 17, some 18, some 19, some 20, some 21, some 22, none, none])) := by rw [hS]; rfl
theorem at_17 {h : fx_H} {a : Nat → Nat} {pp dd : Nat} (hS : h.1 = fx_S0 a pp dd) : h.1[17]? = some (a 17, .inr (0, 400)) := by rw [hS]; rfl
theorem at_18 {h : fx_H} {a : Nat → Nat} {pp dd : Nat} (hS : h.1 = fx_S0 a pp dd) : h.1[18]? = some (a 18, .inr (0, 658)) := by rw [hS]; rfl
theorem at_19 {h : fx_H} {a : Nat → Nat} {pp dd : Nat} (hS : h.1 = fx_S0 a pp dd) : h.1[19]? = some (a 19, .inr (0, 658)) := by rw [hS]; rfl
theorem at_20 {h : fx_H} {a : Nat → Nat} {pp dd : Nat} (hS : h.1 = fx_S0 a pp dd) : h.1[20]? = some (a 20, .inr (0, 658)) := by rw [hS]; rfl
theorem at_21 {h : fx_H} {a : Nat → Nat} {pp dd : Nat} (hS : h.1 = fx_S0 a pp dd) : h.1[21]? = some (a 21, .inr (0, 658)) := by rw [hS]; rfl
theorem at_22 {h : fx_H} {a : Nat → Nat} {pp dd : Nat} (hS : h.1 = fx_S0 a pp dd) : h.1[22]? = some (a 22, .inr (0, 658)) := by rw [hS]; rfl
theorem at_23 {h : fx_H} {a : Nat → Nat} {pp dd : Nat} (hS : h.1 = fx_S0 a pp dd) : h.1[23]? = some (a 23, .inl (9, [none, some 4, some 1, some 3])) := by rw [hS]; rfl
theorem at_24 {h : fx_H} {a : Nat → Nat} {pp dd : Nat} (hS : h.1 = fx_S0 a pp dd) : h.1[24]? = some (a 24, .inl (9, [none, some 4, some 1, some 3])) := by rw [hS]; rfl
theorem at_25 {h : fx_H} {a : Nat → Nat} {pp dd : Nat} (hS : h.1 = fx_S0 a pp dd) : h.1[25]? = some (a 25, .inr (0, 24)) := by rw [hS]; rfl
theorem at_26 {h : fx_H} {a : Nat → Nat} {pp dd : Nat} (hS : h.1 = fx_S0 a pp dd) : h.1[26]? = some (a 26, .inr (0, 24)) := by rw [hS]; rfl
theorem at_27 {h : fx_H} {a : Nat → Nat} {pp dd : Nat} (hS : h.1 = fx_S0 a pp dd) : h.1[27]? = some (a 27, .inl (10, [some 28, none, none, none])) := by rw [hS]; rfl
theorem at_28 {h : fx_H} {a : Nat → Nat} {pp dd : Nat} (hS : h.1 = fx_S0 a pp dd) : h.1[28]? = some (a 28, .inr (0, 960)) := by rw [hS]; rfl
theorem at_29 {h : fx_H} {a : Nat → Nat} {pp dd : Nat} (hS : h.1 = fx_S0 a pp dd) : h.1[29]? = some (a 29, .inl (10, [some 30, none, none, none])) := by rw [hS]; rfl
theorem at_30 {h : fx_H} {a : Nat → Nat} {pp dd : Nat} (hS : h.1 = fx_S0 a pp dd) : h.1[30]? = some (a 30, .inr (0, 960)) := by rw [hS]; rfl
theorem at_31 {h : fx_H} {a : Nat → Nat} {pp dd : Nat} (hS : h.1 = fx_S0 a pp dd) : h.1[31]? = some (a 31, .inl (11, [none, none, none, none, some 32, none, some 33, none, none, none, none, none, none, none, none, none, none, some 34, none, none, none, none, none, some 35, some 36, some 37, some 38, none, none, some 39, some 40, some 41, some 42, some 43, some 44, some 45, some 46])) := by rw [hS]; rfl
theorem at_32 {h : fx_H} {a : Nat → Nat} {pp dd : Nat} (hS : h.1 = fx_S0 a pp dd) : h.1[32]? = some (a 32, .inr (0, 960)) := by rw [hS]; rfl
theorem at_33 {h : fx_H} {a : Nat → Nat} {pp dd : Nat} (hS : h.1 = fx_S0 a pp dd) : h.1[33]? = some (a 33, .inr (0, 2000)) := by rw [hS]; rfl
theorem at_34 {h : fx_H} {a : Nat → Nat} {pp dd : Nat} (hS : h.1 = fx_S0 a pp dd) : h.1[34]? = some (a 34, .inr (0, 960)) := by rw [hS]; rfl
theorem at_35 {h : fx_H} {a : Nat → Nat} {pp dd : Nat} (hS : h.1 = fx_S0 a pp dd) : h.1[35]? = some (a 35, .inr (0, 84)) := by rw [hS]; rfl
theorem at_36 {h : fx_H} {a : Nat → Nat} {pp dd : Nat} (hS : h.1 = fx_S0 a pp dd) : h.1[36]? = some (a 36, .inr (0, 40)) := by rw [hS]; rfl
theorem at_37 {h : fx_H} {a : Nat → Nat} {pp dd : Nat} (hS : h.1 = fx_S0 a pp dd) : h.1[37]? = some (a 37, .inr (0, 40)) := by rw [hS]; rfl
theorem at_38 {h : fx_H} {a : Nat → Nat} {pp dd : Nat} (hS : h.1 = fx_S0 a pp dd) : h.1[38]? = some (a 38, .inr (0, 400)) := by rw [hS]; rfl
theorem at_39 {h : fx_H} {a : Nat → Nat} {pp dd : Nat} (hS : h.1 = fx_S0 a pp dd) : h.1[39]? = some (a 39, .inr (0, 700)) := by rw [hS]; rfl
theorem at_40 {h : fx_H} {a : Nat → Nat} {pp dd : Nat} (hS : h.1 = fx_S0 a pp dd) : h.1[40]? = some (a 40, .inr (0, 700)) := by rw [hS]; rfl
theorem at_41 {h : fx_H} {a : Nat → Nat} {pp dd : Nat} (hS : h.1 = fx_S0 a pp dd) : h.1[41]? = some (a 41, .inr (0, 24)) := by rw [hS]; rfl
theorem at_42 {h : fx_H} {a : Nat → Nat} {pp dd : Nat} (hS : h.1 = fx_S0 a pp dd) : h.1[42]? = some (a 42, .inr (0, 24)) := by rw [hS]; rfl
theorem at_43 {h : fx_H} {a : Nat → Nat} {pp dd : Nat} (hS : h.1 = fx_S0 a pp dd) : h.1[43]? = some (a 43, .inr (1, 9)) := by rw [hS]; rfl
theorem at_44 {h : fx_H} {a : Nat → Nat} {pp dd : Nat} (hS : h.1 = fx_S0 a pp dd) : h.1[44]? = some (a 44, .inr (0, 9)) := by rw [hS]; rfl
theorem at_45 {h : fx_H} {a : Nat → Nat} {pp dd : Nat} (hS : h.1 = fx_S0 a pp dd) : h.1[45]? = some (a 45, .inr (2, 9)) := by rw [hS]; rfl
theorem at_46 {h : fx_H} {a : Nat → Nat} {pp dd : Nat} (hS : h.1 = fx_S0 a pp dd) : h.1[46]? = some (a 46, .inr (2, 9)) := by rw [hS]; rfl
theorem at_47 {h : fx_H} {a : Nat → Nat} {pp dd : Nat} (hS : h.1 = fx_S0 a pp dd) : h.1[47]? = some (a 47, .inr (2, 1)) := by rw [hS]; rfl
theorem fx_nb {e : Int} (h : e = 0 ∨ e = 1) : narrow .boolean (.int (zI e)) = .int (zI e) := by rcases h with rfl | rfl <;> rfl
theorem fx_fb {e : Int} (h : e = 0 ∨ e = 1) : fits .boolean (.int (zI e)) = true := by rcases h with rfl | rfl <;> rfl
