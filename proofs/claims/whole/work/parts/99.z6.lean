/-- the words of a text as the reference has them while it asks -/
def RXT (tk vl : Nat → Int32) (N ba : Nat) (A : Nat → Nat → Int32) (I : Nat → Int32) : Prop := N ≤ 400 ∧ ba ≤ 2800 ∧ (∀ i, i < N → A 1 (1647 + ba + i) = tk i ∧ A 1 (4847 + ba + i) = vl i) ∧ tk N = 0 ∧ I 30 = nI (ba + N)
section Z6
variable {I : Nat → Int32} {J : Nat → Int64} {A : Nat → Nat → Int32} {B : Nat → Nat → Int64} {tk vl : Nat → Int32} {N ba : Nat}
theorem ca_1 (h : RXT tk vl N ba A I) {k : Nat} (hk : k ≤ N) : sX8_codeAt (nI (ba + k)) I J A B = some (tk k) := by
  obtain ⟨h1, h2, h3, h4, h5⟩ := h
  unfold sX8_codeAt
  rw [h5]
  by_cases e : k = N
  · subst e
    rw [if_pos ((nn_le (by omega) (by omega)).mpr (Nat.le_refl _)), h4]
  · rw [if_neg (by rw [nn_le (by omega) (by omega)]; omega), show (1647 : Int32) + nI (ba + k) = nI (1647 + ba + k) by rw [show (1647 : Int32) = nI 1647 from rfl, nI_add, Nat.add_assoc], ck, if_pos (inB_n (by omega) (by decide)), ix_n (by omega), (h3 k (by omega)).1]
theorem pa_1 (h : RXT tk vl N ba A I) {k : Nat} {x : Int32} (hk : k ≤ N) (h29 : I 29 = nI (ba + k)) (hx : tk k = x) : sX8_passes x I J A B = some (1, upd I 29 (nI (ba + (k + 1)))) := by
  unfold sX8_passes
  rw [h29, ca_1 h hk]
  dsimp only [gv, Option.bind_some]
  rw [if_pos hx, if_neg (show ¬ (1 : Int32) = 0 by decide), nI_1, Nat.add_assoc]
theorem pa_0 (h : RXT tk vl N ba A I) {k : Nat} {x : Int32} (hk : k ≤ N) (h29 : I 29 = nI (ba + k)) (hx : ¬ tk k = x) : sX8_passes x I J A B = some (0, I) := by
  unfold sX8_passes
  rw [h29, ca_1 h hk]
  dsimp only [gv, Option.bind_some]
  rw [if_neg hx, if_pos (show (0 : Int32) = 0 from rfl)]
end Z6
