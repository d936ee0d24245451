/-! where the law begins -/
def adr (l : List Nat) (i : Nat) : Nat := l.getD i 0
def fF1 : Nat → Nat → Int := (uf (uf (uf (uf (uf (uf (fun _ _ => 0) 23 0 1) 24 0 0) 27 2 1) 27 3 1) 29 2 1) 29 3 1)
def fF2 : Nat → Nat → Int := (uf (uf (uf (uf (uf (uf (uf (uf (uf (uf (uf (uf (fun _ _ => 0) 23 0 1) 24 0 0) 27 2 1) 27 3 1) 29 2 1) 29 3 1) 31 2 1) 31 3 1) 31 7 (-9)) 31 8 (-9)) 31 9 (-9)) 31 10 (-9))
section ST0
variable {a0 a1 a2 a3 a4 a5 a6 a7 a8 a9 a10 a11 a12 a13 a14 a15 a16 a17 a18 a19 a20 a21 a22 a23 a24 a25 a26 a27 a28 a29 a30 a31 a32 a33 a34 a35 a36 a37 a38 a39 a40 a41 a42 a43 a44 a45 a46 a47 : Nat} {A2 A3 L : Nat → Nat → Int}
theorem st_S : (((a0, .inl (0, [some 1, some 3, some 11, some 13, some 14, some 16, some 23, some 24, some 25, some 26, some 27, some 29, none, none, none, none, none])) :: (a1, .inl (1, [some 2, none, none, none])) :: (a2, .inr (0, 2000)) :: (a3, .inl (2, [some 1, none, none])) :: (a4, .inl (3, [some 1, some 3, some 5, some 7, some 9])) :: (a5, .inl (4, [some 6])) :: (a6, .inr (0, 120)) :: (a7, .inl (4, [some 8])) :: (a8, .inr (0, 120)) :: (a9, .inl (4, [some 10])) :: (a10, .inr (0, 120)) :: (a11, .inl (5, [some 1, some 12, none, none, none, none, none, none])) :: (a12, .inr (0, 9)) :: (a13, .inl (6, [some 1, some 3])) :: (a14, .inl (7, [some 1, some 3, some 15])) :: (a15, .inr (0, 20)) :: (a16, .inl (8, [some 1, some 3, some 17, some 18, some 19, some 20, some 21, some 22, none, none])) :: (a17, .inr (0, 400)) :: (a18, .inr (0, 658)) :: (a19, .inr (0, 658)) :: (a20, .inr (0, 658)) :: (a21, .inr (0, 658)) :: (a22, .inr (0, 658)) :: (a23, .inl (9, [none, some 4, some 1, some 3])) :: (a24, .inl (9, [none, some 4, some 1, some 3])) :: (a25, .inr (0, 24)) :: (a26, .inr (0, 24)) :: (a27, .inl (10, [some 28, none, none, none])) :: (a28, .inr (0, 960)) :: (a29, .inl (10, [some 30, none, none, none])) :: (a30, .inr (0, 960)) :: (a31, .inl (11, (none :: none :: none :: none :: some 32 :: none :: some 33 :: none :: none :: none :: none :: none :: none :: none :: none :: none :: none :: some 34 :: none :: none :: none :: none :: none :: some 35 :: some 36 :: some 37 :: some 38 :: [none, none, some 39, some 40, some 41, some 42, some 43, some 44, some 45, some 46]))) :: (a32, .inr (0, 960)) :: (a33, .inr (0, 2000)) :: (a34, .inr (0, 960)) :: (a35, .inr (0, 84)) :: (a36, .inr (0, 40)) :: (a37, .inr (0, 40)) :: [(a38, .inr (0, 400)), (a39, .inr (0, 700)), (a40, .inr (0, 700)), (a41, .inr (0, 24)), (a42, .inr (0, 24)), (a43, .inr (1, 9)), (a44, .inr (0, 9)), (a45, .inr (2, 9)), (a46, .inr (2, 9)), (a47, .inr (2, 1))]) : fx_S) = fx_S0 (adr (a0 :: a1 :: a2 :: a3 :: a4 :: a5 :: a6 :: a7 :: a8 :: a9 :: a10 :: a11 :: a12 :: a13 :: a14 :: a15 :: a16 :: a17 :: a18 :: a19 :: a20 :: a21 :: a22 :: a23 :: a24 :: a25 :: a26 :: a27 :: a28 :: a29 :: a30 :: a31 :: a32 :: a33 :: a34 :: a35 :: a36 :: a37 :: [a38, a39, a40, a41, a42, a43, a44, a45, a46, a47])) 27 29 := rfl
theorem st_C {a : Nat → Nat} (e2 : ∀ i : Nat, i < 120 → A3 6 i = trW.getD i 0) (e3 : ∀ i : Nat, i < 120 → A3 8 i = trB.getD i 0) (e4 : ∀ i : Nat, i < 120 → A3 10 i = trM.getD i 0) (z3 : ∀ q b, 11 ≤ q → A3 q b = 0) (g : ∀ q k, q ≠ 35 → A2 q k = A3 q k) : CPs (fx_S0 a 27 29, fF2, A2, L) a 27 29 0 1 1 (fun _ _ => 0) [] (0, 0, 0, 0, 0) := by
  have z28 : ∀ i, A2 28 i = 0 := fun i => by rw [g 28 i (by decide)]; exact z3 28 i (by decide)
  refine ⟨rfl, Or.inl ⟨rfl, rfl⟩, ⟨rfl, rfl⟩, ⟨⟨⟨_, rfl⟩, ⟨_, rfl⟩, fun i hi => ?_⟩, ⟨⟨_, rfl⟩, ⟨_, rfl⟩, fun i hi => ?_⟩, ⟨⟨_, rfl⟩, ⟨_, rfl⟩, fun i hi => ?_⟩⟩, ⟨0, ⟨rfl, rfl, fun i hi => absurd hi (Nat.not_lt_zero _), fun z => absurd rfl z⟩, rfl, Or.inl rfl, by decide, fun b hb => absurd hb (by simp)⟩, ⟨⟨⟨_, rfl⟩, ⟨_, rfl⟩, Or.inl rfl, show (1 : Int) ≤ fF2 27 2 by decide, show fF2 27 2 ≤ 40 by decide, show (1 : Int) ≤ fF2 27 3 by decide, show fF2 27 3 ≤ 24 by decide⟩, fun i hi => ?_, by decide, rfl, rfl, rfl, fun x y => ?_, Or.inl rfl, by decide, by decide, by decide, by decide, fun z => absurd z (by decide), fun x y => by simp, fun x y _ => rfl⟩, ⟨⟨_, rfl⟩, ⟨_, rfl⟩, Or.inl rfl, show (1 : Int) ≤ fF2 29 2 by decide, show fF2 29 2 ≤ 40 by decide, show (1 : Int) ≤ fF2 29 3 by decide, show fF2 29 3 ≤ 24 by decide⟩, rfl, Or.inl rfl, fun z => absurd z (by decide)⟩
  · show A2 6 i = _
    rw [g 6 i (by decide)]; exact e2 i hi
  · show A2 8 i = _
    rw [g 8 i (by decide)]; exact e3 i hi
  · show A2 10 i = _
    rw [g 10 i (by decide)]; exact e4 i hi
  · show 0 ≤ A2 28 i ∧ A2 28 i ≤ _
    rw [z28 i]
    exact ⟨by decide, by split <;> decide⟩
  · unfold fp_px
    split
    · exact z28 _
    · rfl
theorem st_M {a : Nat → Nat} (z3 : ∀ q b, 11 ≤ q → A3 q b = 0) (g : ∀ q k, q ≠ 35 → A2 q k = A3 q k) (c : ∀ k : Nat, (k : Int) < 82 → A2 35 k = cT82.getD k 0) : MPs (fx_S0 a 27 29, fF2, A2, L) 0 1 1 (fun _ _ => 0) [] (0, 0, 0, 0, 0) := by
  have hl : fx_tWR.length = 41 := by decide
  refine ⟨fun i hi => ⟨?_, ?_⟩, ⟨0, ⟨rfl, rfl, rfl, fun i hi => absurd hi (Nat.not_lt_zero _)⟩, rfl, Or.inl rfl, by decide, fun b hb => absurd hb (by simp)⟩, rfl, rfl, rfl, fun x y _ _ _ _ => ?_, ⟨Or.inl rfl, by decide, by decide, by decide, by decide, fun z => absurd z (by decide), fun x y => by simp, fun x y _ => rfl⟩, fun _ => ⟨rfl, rfl, rfl, rfl⟩, fun z => absurd z (by decide)⟩
  · show A2 35 i = _
    rw [c i (by omega)]
    unfold cT82
    rw [List.getD_eq_getElem?_getD, List.getD_eq_getElem?_getD, List.getElem?_append_left (by omega)]
  · show A2 35 (41 + i) = _
    rw [c (41 + i) (by omega)]
    unfold cT82
    rw [List.getD_eq_getElem?_getD, List.getD_eq_getElem?_getD, List.getElem?_append_right (by omega), hl, Nat.add_sub_cancel_left]
  · show A2 32 _ = _
    rw [g 32 _ (by decide)]
    exact z3 32 _ (by decide)
end ST0
