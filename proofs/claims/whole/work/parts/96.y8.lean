section Y8
variable {I I1 : Nat → Int32} {J J1 : Nat → Int64} {A A1 : Nat → Nat → Int32} {B B1 : Nat → Nat → Int64} {tp : Nat → Nat} {z : Nat}
theorem len_n {k m : Nat} (h : k ≤ m) (hm : m < 2 ^ 31) : lenOK (nI k) m = true := by
  unfold lenOK
  simp only [Bool.and_eq_true, decide_eq_true_eq]
  exact ⟨by rw [show (0 : Int32) = nI 0 from rfl, nn_lt (by omega) (by decide)]; omega, by rw [ix_n (by omega)]; exact h⟩
/-- a whole text read, both -/
theorem rd_x (ht : TP tp z A A1) (h17 : ∀ j, j < 107 → A1 17 j = mwf 107 j) (e20 : I1 20 = nI z) : ∃ r I2 A2 I3 A3, sX3_read (nI z) I J A B = some (r, I2, A2) ∧ sX8_reads I1 J1 A1 B1 = some (r, I3, A3) ∧ (∀ x, x < 80 → I2 x = I x) ∧ (∀ b, b < 80 → A2 b = A b) ∧ (∀ x, ¬ x = 20 → ¬ x = 21 → ¬ x = 25 → ¬ x = 26 → ¬ x = 27 → ¬ x = 28 → I3 x = I1 x) ∧ (∀ b, ¬ b = 22 → ¬ b = 23 → ¬ b = 24 → A3 b = A1 b) ∧ I3 20 = 0 ∧ ((r = 1 ∧ I3 21 = -1 ∧ ∃ n c s, n ≤ 400 ∧ I3 25 = nI n ∧ A3 22 n = 0 ∧ c < 12 ∧ I2 88 = nI (c + 1) ∧ I2 90 = nI (2 * s) ∧ s ≤ 200 ∧ ∀ w b : Nat → Int32, (∀ i, i < 2 * s → w i = A2 89 i) → (∀ i, i < 4 * (c + 1) → b i = A2 87 i) → EC (A3 22) (A3 23) w b (c + 1) (n + 1) s) ∨ (r = 0 ∧ I2 80 = I3 21)) := by
  obtain ⟨⟨Ia, Aa⟩, q1, n, q2, q3, q4, q5, q6⟩ := cuts_8 (I1 := I1) (J1 := J1) (B1 := B1) ht h17
  have q2 : TKS tp z n (Aa 22) (Aa 23) := q2
  have q3 : ∀ i, i ≤ n → Aa 24 i = nI (st8 tp z i) := q3
  have q4 : Ia 25 = nI n := q4
  have q5 : ∀ q, ¬ q = 25 → Ia q = I1 q := q5
  have q6 : ∀ b, ¬ b = 22 → ¬ b = 23 → ¬ b = 24 → Aa b = A1 b := q6
  have hz := ht.1
  have hc : CX tp z n (Aa 22) (Aa 23) Aa (A 6) := ⟨hz, fun i hi => ⟨(ht.2 i hi).1, (ht.2 i hi).2.1⟩, q2, rfl, rfl, q3⟩
  have hn : n ≤ 400 := Nat.le_trans q2.1 hz
  unfold sX3_read sX8_reads
  rw [e20, q1]
  dsimp only [gv, Option.bind_some]
  rw [if_neg (show ¬ 400 < nI z by rw [show (400 : Int32) = nI 400 from rfl, nn_lt (by decide) (by omega)]; omega)]
  obtain ⟨Ib, a1, a2, a3⟩ := av_7 (I := upd (upd (upd (upd (upd I 82 (nI z)) 83 0) 86 0) 88 0) 90 0) (J := J) (A := A) (B := B) (k := 0) (q := 0) (tk := Aa 22) (vl := Aa 23) hz (fun i hi => ⟨(ht.2 i hi).1, (ht.2 i hi).2.1⟩) (by rw [upd_n _ _ (by decide), upd_n _ _ (by decide), upd_n _ _ (by decide), upd_n _ _ (by decide), upd_s]) (by rw [upd_n _ _ (by decide), upd_n _ _ (by decide), upd_n _ _ (by decide), upd_s]; rfl) (by omega) rfl (fun hlt => by
    by_cases e : n = 0
    · have q8 := q2.2.1
      rw [e] at q8
      omega
    · exact (q2.2.2.1 0 (by omega)).2)
  rw [a1]
  dsimp only [Option.bind_some]
  obtain ⟨o, I2, A2, I3, i1, i2, i3, i4⟩ := rl_x (J := J) (J1 := J1) (B := B) (B1 := B1) hc FU FU 0 0 0 0 Ib A (upd (upd (upd (upd Ia 20 0) 26 0) 27 0) 28 (-1)) (by unfold FU; omega) (by unfold FU; omega) (by omega) rfl (by rw [a3 88 (by decide) (by decide) (by decide) (by decide), upd_n _ _ (by decide), upd_s]; rfl) ⟨by omega, a2, by rw [a3 86 (by decide) (by decide) (by decide) (by decide), upd_n _ _ (by decide), upd_n _ _ (by decide), upd_s]; rfl, by omega, by rw [a3 90 (by decide) (by decide) (by decide) (by decide), upd_s]; rfl, by rw [upd_n _ _ (by decide), upd_n _ _ (by decide), upd_s]; rfl, by rw [upd_n _ _ (by decide), upd_s]; rfl, upd_s _ _ _⟩ (by omega) (fun w b _ _ => ec_0)
  have i1 : lX3_read_41 FU 0 Ib J A B = some o := i1
  have i2 : ((sX8_readClause (upd (upd (upd (upd Ia 20 0) 26 0) 27 0) 28 (-1)) J1 Aa B1).bind fun I => lX8_reads_34 FU 1 I J1 Aa B1) = some I3 := i2
  rw [i1, ← Option.bind_assoc, i2]
  dsimp only [Option.bind_some]
  have z1 : ∀ x, x < 80 → I2 x = I x := fun x hx => by
    rw [i3.1 x (by omega) (by omega) (by omega) (by omega) (by omega) (by omega) (by omega), a3 x (by omega) (by omega) (by omega) (by omega), upd_n _ _ (by omega), upd_n _ _ (by omega), upd_n _ _ (by omega), upd_n _ _ (by omega), upd_n _ _ (by omega)]
  have z2 : ∀ b, b < 80 → A2 b = A b := fun b hb => i3.2.1 b (by omega) (by omega)
  have z3 : ∀ x, ¬ x = 20 → ¬ x = 21 → ¬ x = 25 → ¬ x = 26 → ¬ x = 27 → ¬ x = 28 → I3 x = I1 x := fun x h1 _ h3 h4 h5 h6 => by
    rw [i3.2.2 x h4 h5 h6, upd_n _ _ h6, upd_n _ _ h5, upd_n _ _ h4, upd_n _ _ h1, q5 x h3]
  have z4 : I3 20 = 0 := by
    rw [i3.2.2 20 (by decide) (by decide) (by decide), upd_n _ _ (by decide), upd_n _ _ (by decide), upd_n _ _ (by decide), upd_s]
  have z5 : I3 25 = nI n := by
    rw [i3.2.2 25 (by decide) (by decide) (by decide), upd_n _ _ (by decide), upd_n _ _ (by decide), upd_n _ _ (by decide), upd_n _ _ (by decide)]
    exact q4
  rcases i4 with ⟨rfl, c, s, l, g1, g2, g3, g4, g5⟩ | ⟨ho, p, d1, d2, d3⟩
  · obtain ⟨t1, t2, t3, t4, t5, t6, t7, t8⟩ := g2
    dsimp only
    rw [g4, t5, show nI (c + 1) * 4 = nI (4 * (c + 1)) by rw [show (4 : Int32) = nI 4 from rfl, pk_mul, Nat.mul_comm], ck, if_pos (len_n (by omega) (by decide)), ck, if_pos (len_n (by omega) (by decide)), fi_1 t8]
    dsimp only [Option.bind_some]
    rw [if_neg (show ¬ (1 : Int32) = 0 by decide), z5, t6, if_pos (show nI n ≤ nI n by rw [nn_le (by omega) (by omega)]; omega), fi_1 ((upd_n _ _ (by decide)).trans t8)]
    exact ⟨1, I2, A2, _, Aa, rfl, rfl, z1, z2, fun x h1 h2 h3 h4 h5 h6 => (upd_n _ _ h2).trans (z3 x h1 h2 h3 h4 h5 h6), q6, (upd_n _ _ (by decide)).trans z4, Or.inl ⟨rfl, (upd_s _ _ _).trans t8, n, c, s, hn, (upd_n _ _ (by decide)).trans z5, q2.2.2.2, g1, g4, t5, g3, g5⟩⟩
  · have hcl : (match o with
        | .inl (I, A) => some ((0 : Int32), I, A)
        | .inr (.inl (I, A)) => ck (lenOK ((I 88) * 4) 48) <| ck (lenOK (I 90) 400) <| some (1, I, A)
        | .inr (.inr (.inl (I, A))) => some (0, I, A)
        | .inr (.inr (.inr (I, A))) => some (0, I, A)) = some (0, I2, A2) := by
      rcases ho with rfl | rfl | rfl <;> rfl
    refine ⟨0, I2, A2, upd (upd I3 28 (nI p)) 21 (nI p), Aa, hcl, ?_, z1, z2, fun x h1 h2 h3 h4 h5 h6 => by rw [upd_n _ _ h2, upd_n _ _ h6]; exact z3 x h1 h2 h3 h4 h5 h6, q6, by rw [upd_n _ _ (by decide), upd_n _ _ (by decide)]; exact z4, Or.inr ⟨rfl, by rw [upd_s]; exact d2⟩⟩
    rcases d3 with d3 | ⟨k, k1, k2, k3, k4⟩
    · rw [fi_0 d3 (by omega)]
      dsimp only [Option.bind_some]
      rw [if_pos (show (0 : Int32) = 0 from rfl), fi_0 (p := p) ((upd_n _ _ (by decide)).trans d3) (by omega), d3]
      dsimp only [Option.bind_some]
      rw [ck, if_pos (by decide), show upd I3 28 (nI p) = I3 by
        funext x
        by_cases e : x = 28
        · rw [e, upd_s, d3]
        · exact upd_n _ _ e]
    · rw [fi_1 k2]
      dsimp only [Option.bind_some]
      rw [if_neg (show ¬ (1 : Int32) = 0 by decide), z5, if_neg (show ¬ nI n ≤ I3 26 by rw [k3, nn_le (by omega) (by omega)]; omega), fa_1 k2 k3 (by omega) (q3 k (by omega)), ← k4]
      dsimp only [Option.bind_some]
      rw [fi_0 (p := p) (by rw [upd_n _ _ (by decide), upd_s]) (by omega), upd_s]
      rfl
end Y8
