section ZF
variable {I I1 : Nat → Int32} {J J1 : Nat → Int64} {A A1 : Nat → Nat → Int32} {B B1 : Nat → Nat → Int64} {T : Nat → Option Txt} {M : Nat → Option Img}
theorem zfl_0 {o : Option Int64} (h : o = none) : zfl o = 0 := by rw [h]; rfl
theorem zfl_1 {o : Option Int64} {v : Int64} (h : o = some v) : zfl o = 1 := by rw [h]; rfl
def fsK (f : Nat) (x1 x2 : Int32) (x3 : Int64) (x5 : Int32) (I : Nat → Int32) (J : Nat → Int64) (A : Nat → Nat → Int32) (B : Nat → Nat → Int64) : Option (Int32 × (Nat → Int32) × (Nat → Int64) × (Nat → Nat → Int32) × (Nat → Nat → Int64)) :=
  if (I 37) = (0 : Int32) then lX8_first_17 f x1 x2 x3 (x5 + 1) I J A B else if x2 = (-1 : Int32) then lX8_first_17 f x1 x5 (J 35) (x5 + 1) I J A B else if (0 : Int32) < (lg_cmp (J 35) x3) then lX8_first_17 f x1 x5 (J 35) (x5 + 1) I J A B else lX8_first_17 f x1 x2 x3 (x5 + 1) I J A B
/-- a tower's values, the reference: the loop's body up to the asking -/
theorem ft_8 {f i k : Nat} {x1 x2 : Int32} {x3 : Int64} (hk : A 1 1638 = nI k) (hk2 : k ≤ 12) (hi : i < k) (h4 : A 1 (1573 + (i * 5 + 4)) = 0 ∨ A 1 (1573 + (i * 5 + 4)) = 1) : ∃ A3 B3, lX8_first_17 (f + 1) x1 x2 x3 (nI i) I J A B = ((sX8_asks x1 I J A3 B3).bind fun (I, J) => fsK f x1 x2 x3 (nI i) I J A3 B3) ∧ (∀ a, ¬ a = 33 → A3 a = A a) ∧ B3 32 0 = 0 ∧ B3 32 1 = 0 ∧ B3 32 2 = 0 ∧ B3 32 3 = 0 ∧ B3 32 4 = 0 ∧ B3 32 5 = 0 ∧ B3 32 6 = (A 1 (1573 + (i * 5 + 3))).toInt64 ∧ B3 32 7 = (A 1 (1573 + i * 5)).toInt64 ∧ B3 32 8 = (A 1 (1573 + (i * 5 + 1))).toInt64 ∧ B3 32 9 = (A 1 (1573 + (i * 5 + 2))).toInt64 ∧ A3 33 0 = 0 ∧ A3 33 1 = A 1 (1573 + (i * 5 + 4)) ∧ A3 33 2 = 0 ∧ A3 33 3 = 0 := by
  have hF : FU = 1000000 := rfl
  obtain ⟨B2, E1, b1, b2, -⟩ := f33 (I := I) (J := J) (A := A) (x1 := x1) (x2 := x2) (x3 := x3) (x5 := nI i) 10 FU 0 B rfl (by omega)
  obtain ⟨A2, E2, a1, a2, -⟩ := f57 (I := I) (J := J) (B := B2) (x1 := x1) (x2 := x2) (x3 := x3) (x5 := nI i) 4 FU 0 A rfl (by omega)
  have e5 : (1573 : Int32) + 5 * nI i = nI (1573 + i * 5) := by rw [show (5 : Int32) = nI 5 from rfl, pk_mul, show (1573 : Int32) = nI 1573 from rfl, nI_add, Nat.mul_comm]
  have ea : ∀ c, nI (1573 + i * 5) + nI c = nI (1573 + (i * 5 + c)) := fun c => by rw [nI_add, Nat.add_assoc]
  rw [lX8_first_17, show A 1 (ix 1638) = nI k from hk, if_neg (show ¬ nI k ≤ nI i by rw [nn_le (by omega) (by omega)]; omega), show (0 : Int32) = nI 0 from rfl, E1]
  dsimp only [Option.bind_some]
  rw [E2]
  dsimp only [Option.bind_some, gv]
  rw [e5, show nI (1573 + i * 5) + 3 = _ from ea 3, show nI (1573 + i * 5) + 1 = _ from ea 1, show nI (1573 + i * 5) + 2 = _ from ea 2, show nI (1573 + i * 5) + 4 = _ from ea 4, ck, if_pos (inB_n (by omega) (by decide)), ck, if_pos (inB_n (by omega) (by decide)), ck, if_pos (inB_n (by omega) (by decide)), ck, if_pos (inB_n (by omega) (by decide)), ck, if_pos (inB_n (by omega) (by decide)), ix_n (by omega), ix_n (by omega), ix_n (by omega), ix_n (by omega), ix_n (by omega), a1 1 (by decide)]
  refine ⟨_, _, rfl, fun a ha => (va_up_ne _ _ ha).trans (a1 a ha), ?_⟩
  have z : ∀ j, j < 10 → B2 32 j = 0 := fun j hj => b2 j (Nat.zero_le _) hj
  simp only [va_up_self]
  refine ⟨z 0 (by decide), z 1 (by decide), z 2 (by decide), z 3 (by decide), z 4 (by decide), z 5 (by decide), rfl, rfl, rfl, rfl, a2 0 (by decide) (by decide), ?_, a2 2 (by decide) (by decide), a2 3 (by decide) (by decide)⟩
  show vp_nar .boolean (if A 1 (1573 + (i * 5 + 4)) = 1 then 1 else 0) = _
  rcases h4 with h | h <;> rw [h] <;> decide
end ZF
