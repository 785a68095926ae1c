section Z7
variable {I : Nat → Int32} {J : Nat → Int64} {A : Nat → Nat → Int32} {B : Nat → Nat → Int64}
/-- bounded: not live -/
theorem bd_d {x : Int64} : ∃ v, sX8_bounded x 0 I J A B = some (v, I) := by
  unfold sX8_bounded
  dsimp only [gv]
  rw [if_pos (show (0 : Int32) = 0 from rfl)]
  exact ⟨_, rfl⟩
/-- bounded: live -/
theorem bd_1 {x : Int64} (h : I 31 = 0) : ∃ v I2, sX8_bounded x 1 I J A B = some (v, I2) ∧ (∀ q, ¬ q = 31 → I2 q = I q) ∧ ((I2 31 = 0 ∧ bJ x = some v) ∨ (I2 31 = 1 ∧ bJ x = none)) := by
  unfold sX8_bounded bJ
  dsimp only [gv]
  rw [if_neg (show ¬ (1 : Int32) = 0 by decide)]
  by_cases c1 : 0 < lg_cmp x 1000000000
  · rw [if_pos c1, if_pos c1]
    exact ⟨_, _, rfl, fun q hq => upd_n _ _ hq, Or.inr ⟨upd_s _ _ _, rfl⟩⟩
  · rw [if_neg c1, if_neg c1]
    by_cases c2 : 0 ≤ lg_cmp x (-1000000000)
    · rw [if_pos c2, if_neg (show ¬ lg_cmp x (-1000000000) < 0 by rw [i32_lt]; rw [i32_le] at c2; omega), if_pos h]
      exact ⟨x, I, rfl, fun _ _ => rfl, Or.inl ⟨h, rfl⟩⟩
    · rw [if_neg c2, if_pos (show lg_cmp x (-1000000000) < 0 by rw [i32_lt]; rw [i32_le] at c2; omega)]
      exact ⟨_, _, rfl, fun q hq => upd_n _ _ hq, Or.inr ⟨upd_s _ _ _, rfl⟩⟩
/-- bounded: broken already -/
theorem bd_b {x : Int64} {l : Int32} (h : I 31 = 1) : ∃ v I2, sX8_bounded x l I J A B = some (v, I2) ∧ (∀ q, ¬ q = 31 → I2 q = I q) ∧ I2 31 = 1 := by
  unfold sX8_bounded
  dsimp only [gv]
  by_cases c : l = 0
  · rw [if_pos c]
    exact ⟨_, I, rfl, fun _ _ => rfl, h⟩
  · rw [if_neg c]
    by_cases c1 : 0 < lg_cmp x 1000000000
    · rw [if_pos c1]
      exact ⟨_, _, rfl, fun q hq => upd_n _ _ hq, upd_s _ _ _⟩
    · rw [if_neg c1]
      by_cases c2 : 0 ≤ lg_cmp x (-1000000000)
      · rw [if_pos c2]
        exact ⟨_, I, rfl, fun _ _ => rfl, h⟩
      · rw [if_neg c2]
        exact ⟨_, _, rfl, fun q hq => upd_n _ _ hq, upd_s _ _ _⟩
end Z7
