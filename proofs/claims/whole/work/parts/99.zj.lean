/-- how two runs of need end -/
def NQ (T : Nat → Option Txt) (M : Nat → Option Img) (I0 K0 : Nat → Int32) (a b : Int64 × (Nat → Int32) × (Nat → Int64) × (Nat → Nat → Int32) × (Nat → Nat → Int64)) : Prop := a.1 = b.1 ∧ a.1.toInt32.toInt64 = a.1 ∧ RE XX GG a.2.1 a.2.2.1 a.2.2.2.1 a.2.2.2.2 T M b.2.1 b.2.2.1 b.2.2.2.1 b.2.2.2.2 ∧ (∀ q, q < 45 → a.2.1 q = I0 q) ∧ b.2.2.2.1 1 = K0
section ZJ
variable {I I1 I0 K0 : Nat → Int32} {J J1 : Nat → Int64} {A A1 : Nat → Nat → Int32} {B B1 : Nat → Nat → Int64} {T : Nat → Option Txt} {M : Nat → Option Img} {e : Nat → Nat → Int} {j : Nat}
theorem mx_1 (u v : Int64) : (if u < v then v else u) = if lg_cmp u v ≤ 0 then v else u := by
  by_cases c : u < v
  · rw [if_pos c, if_pos (by rw [lg_cmp_le]; exact Int64.le_of_lt c)]
  · rw [if_neg c]
    by_cases c2 : lg_cmp u v ≤ 0
    · rw [if_pos c2]
      rw [lg_cmp_le] at c2
      exact Int64.le_antisymm c2 (Int64.not_lt.mp c)
    · rw [if_neg c2]
theorem zof_7 {k w : Nat} (hw : I 30 = nI 3) (ek : I 32 = nI k) (hk : k ≤ 16) (hi : w < k) : sX4_isOnFace (nI w) I J A B = some (z13 (A 31 (w * 3))) := by
  unfold sX4_isOnFace
  rw [show sX5_cell 0 (nI w) 0 I J A B = some (A 31 (w * 3 + 0)) from cell_7 (n := 0) (c := 0) (by decide) hw ek hk hi (by decide)]
  rfl
theorem fw_7 {x1 x2 : Int32} : ∃ A2, sX0_faceWind x1 x2 I J A B = some A2 ∧ (∀ a, ¬ a = 96 → A2 a = A a) ∧ A2 96 = upd (upd (A 96) 0 x1) 13 (if x2 = 0 then 0 else 1) := by
  unfold sX0_faceWind
  dsimp only [gv]
  exact ⟨_, rfl, fun a ha => by rw [va_up_ne _ _ ha, va_up_ne _ _ ha], by rw [va_up_self, va_up_self]; rfl⟩
theorem z13_b (v : Int32) : z13 v = 0 ∨ z13 v = 1 := by
  unfold z13
  by_cases c : (v - v / 2 * 2) = 0
  · rw [if_pos c]; exact Or.inr rfl
  · rw [if_neg c]; exact Or.inl rfl
/-- the values of a joint in a wind are the same -/
theorem lk_j {w k : Nat} {x3 : Int32} {A2 A3 A4 : Nat → Nat → Int32} {Ar : Nat → Nat → Int32} {Br : Nat → Nat → Int64} (hs : SR XX GG I A T (A1 1)) (hj : j < 48) (ek : I 32 = nI k) (hk : k ≤ 16) (hw : w < k) (he : EB e) (a2 : ∀ a, ¬ a = 64 → A2 a = A a) (a3 : A3 96 = upd (upd (upd (upd (upd (upd (upd (upd (upd (fillA 14 0 (A2 96)) 1 (A2 14 (j / 8))) 2 (nI (j / 8))) 3 (nI (j / 2 % 4))) 4 x3) 5 (hdf A2 j)) 6 (A2 15 3)) 10 (1 - A2 11 j)) 11 (A2 11 j)) 12 (z12 A2 j)) (a4 : A4 96 = upd (upd (A3 96) 0 (ldF e j).toInt32) 13 (if z13 (A 31 (w * 3)) = 0 then 0 else 1)) (b : Br 32 0 = ldF e j ∧ Br 32 1 = (A1 1 (150 + j / 8)).toInt64 ∧ Br 32 2 = (nI (j / 8)).toInt64 ∧ Br 32 3 = (nI (j / 2 % 4)).toInt64 ∧ Br 32 4 = x3.toInt64 ∧ Br 32 5 = (hdf A j).toInt64 ∧ Br 32 6 = (A1 1 159).toInt64 ∧ Br 32 7 = 0 ∧ Br 32 8 = 0 ∧ Br 32 9 = 0) (c0 : Ar 33 0 = (if A1 1 (48 + j) = 0 then 1 else 0)) (c1 : Ar 33 1 = (if A1 1 (48 + j) = 1 then 1 else 0)) (c2 : Ar 33 2 = (if A1 1 (48 + j) = 1 then (if A1 1 (96 + j) ≤ 0 then 0 else 1) else 0)) (c3 : Ar 33 3 = z13 (A1 1 (165 + 3 * w))) : LK A4 Ar Br := by
  obtain ⟨b0, b1, b2, b3, b4, b5, b6, b7, b8, b9⟩ := b
  have e11 := (hs.2.1 j hj).1
  have t11 := bt_01 (hs.2.1 j hj).2
  have e12 := (hs.2.2.1 j hj).1
  have e14 := (hs.2.2.2.2.1 (j / 8) (by omega)).1
  have e15 := (hs.2.2.2.2.2.1.1 3 (by decide)).1
  obtain ⟨ew, es, k', hk', ek', hc⟩ := hs.2.2.2.2.2.2.2.1 0 (by decide)
  have kk : k' = k := by
    have h : nI k' = nI k := ek'.symm.trans ek
    rw [nI_eq (by have : tN 0 = 16 := rfl; omega) (by omega)] at h
    exact h
  have ewd : A 31 (w * 3) = A1 1 (165 + w * 3) := (hc (w * 3) (by rw [kk]; have : tW 0 = 3 := rfl; rw [this]; omega) (fun q => absurd q (by decide))).1
  have x11 : A2 11 = A 11 := a2 11 (by decide)
  have x12 : A2 12 = A 12 := a2 12 (by decide)
  have x14 : A2 14 = A 14 := a2 14 (by decide)
  have x15 : A2 15 = A 15 := a2 15 (by decide)
  have xh : hdf A2 j = hdf A j := by unfold hdf; rw [x11, x12, x15]
  have xz : z12 A2 j = z12 A j := by unfold z12; rw [x11, x12]
  rw [xh, xz, x11, x14, x15] at a3
  refine ⟨fun i hi => ?_, fun i hi => ?_⟩
  · have : i = 0 ∨ i = 1 ∨ i = 2 ∨ i = 3 ∨ i = 4 ∨ i = 5 ∨ i = 6 ∨ i = 7 ∨ i = 8 ∨ i = 9 := by omega
    rw [a4, a3]
    rcases this with rfl | rfl | rfl | rfl | rfl | rfl | rfl | rfl | rfl | rfl
    · rw [b0]; exact ld_b he hj
    · rw [b1, ← e14]; rfl
    · rw [b2]; rfl
    · rw [b3]; rfl
    · rw [b4]; rfl
    · rw [b5]; rfl
    · rw [b6, show (159 : Nat) = 156 + 3 from rfl, ← e15]; rfl
    · rw [b7]; rfl
    · rw [b8]; rfl
    · rw [b9]; rfl
  · have : i = 0 ∨ i = 1 ∨ i = 2 ∨ i = 3 := by omega
    rw [a4, a3]
    rcases this with rfl | rfl | rfl | rfl
    · rw [c0, ← e11]
      show 1 - A 11 j = _ ∧ _
      rcases t11 with h | h <;> rw [h] <;> decide
    · rw [c1, ← e11]
      show A 11 j = _ ∧ _
      rcases t11 with h | h <;> rw [h] <;> decide
    · rw [c2, ← e11, ← e12]
      show z12 A j = _ ∧ _
      refine ⟨rfl, ?_⟩
      by_cases h1 : A 11 j = 1
      · rw [if_pos h1]
        by_cases h2 : A 12 j ≤ 0
        · rw [if_pos h2]; exact Or.inl rfl
        · rw [if_neg h2]; exact Or.inr rfl
      · rw [if_neg h1]; exact Or.inl rfl
    · rw [c3, Nat.mul_comm 3 w, ← ewd]
      show (if z13 (A 31 (w * 3)) = 0 then 0 else 1) = _ ∧ _
      rcases z13_b (A 31 (w * 3)) with h | h <;> rw [h] <;> decide
end ZJ
