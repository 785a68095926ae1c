/-! bounds of Bearing's numbers -/
def EB (e : Nat → Nat → Int) : Prop := (∀ j, j < 48 → 1 ≤ e 0 j ∧ e 0 j ≤ 9) ∧ (∀ j, j < 48 → 0 ≤ e 1 j ∧ e 1 j ≤ 100000) ∧ (∀ t, t < 6 → 0 ≤ e 2 t ∧ e 2 t ≤ 100000) ∧ (∀ t, t < 6 → 0 ≤ e 3 t ∧ e 3 t ≤ 120) ∧ (∀ t, t < 6 → 0 ≤ e 4 t ∧ e 4 t ≤ 420) ∧ (e 5 0).natAbs ≤ 100000 ∧ (e 5 1).natAbs ≤ 100000 ∧ 0 ≤ e 5 2 ∧ e 5 2 ≤ 1000
theorem ab_mul {a b : Int} {m n : Nat} (h1 : a.natAbs ≤ m) (h2 : b.natAbs ≤ n) : (a * b).natAbs ≤ m * n := by rw [Int.natAbs_mul]; exact Nat.mul_le_mul h1 h2
theorem ab_add {a b : Int} {m n : Nat} (h1 : a.natAbs ≤ m) (h2 : b.natAbs ≤ n) : (a + b).natAbs ≤ m + n := by omega
theorem ab_sub {a b : Int} {m n : Nat} (h1 : a.natAbs ≤ m) (h2 : b.natAbs ≤ n) : (a - b).natAbs ≤ m + n := by omega
theorem ab_neg {a : Int} {m : Nat} (h1 : a.natAbs ≤ m) : (-a).natAbs ≤ m := by omega
section S2
variable {e : Nat → Nat → Int} {g : Nat → Bool} {t f j : Nat}
theorem kF_b (he : EB e) (ht : t < 6) (hf : f < 4) : 0 ≤ kF e g t f ∧ kF e g t f ≤ 18 := by
  have h1 := he.1 (8 * t + 2 * f) (by omega)
  have h2 := he.1 (8 * t + 2 * f + 1) (by omega)
  unfold kF
  split <;> split <;> omega
theorem kF_1 (he : EB e) (hj : j < 48) (hg : g j = false) : 1 ≤ kF e g (j / 8) (j / 2 % 4) := by
  have h1 := he.1 (8 * (j / 8) + 2 * (j / 2 % 4)) (by omega)
  have h2 := he.1 (8 * (j / 8) + 2 * (j / 2 % 4) + 1) (by omega)
  have h3 := he.1 j hj
  unfold kF
  rcases (by omega : j = 8 * (j / 8) + 2 * (j / 2 % 4) ∨ j = 8 * (j / 8) + 2 * (j / 2 % 4) + 1) with e1 | e1
  · rw [← e1] at h1 h2 ⊢
    rw [hg, if_neg (by decide)]
    split <;> omega
  · rw [← e1, hg, if_neg (show ¬ false = true by decide)]
    split <;> omega
theorem kF_2 (he : EB e) (ht : t < 6) (hf : f < 4) : 2 ≤ kF e (fun _ => false) t f := by
  have h1 := he.1 (8 * t + 2 * f) (by omega)
  have h2 := he.1 (8 * t + 2 * f + 1) (by omega)
  rw [show kF e (fun _ => false) t f = e 0 (8 * t + 2 * f) + e 0 (8 * t + 2 * f + 1) from rfl]
  omega
theorem wF_b (he : EB e) (ht : t < 6) : 0 ≤ wF e g t ∧ (wF e g t).natAbs ≤ 23328 := by
  have h0 := kF_b (g := g) he ht (show 0 < 4 by decide)
  have h1 := kF_b (g := g) he ht (show 1 < 4 by decide)
  have h2 := kF_b (g := g) he ht (show 2 < 4 by decide)
  have h3 := kF_b (g := g) he ht (show 3 < 4 by decide)
  unfold wF
  refine ⟨Int.add_nonneg (Int.mul_nonneg (Int.mul_nonneg h0.1 h2.1) (by omega)) (Int.mul_nonneg (Int.mul_nonneg h1.1 h3.1) (by omega)), ?_⟩
  exact ab_add (m := 11664) (n := 11664) (ab_mul (m := 324) (n := 36) (ab_mul (m := 18) (n := 18) (by omega) (by omega)) (by omega)) (ab_mul (m := 324) (n := 36) (ab_mul (m := 18) (n := 18) (by omega) (by omega)) (by omega))
theorem wF_1 (he : EB e) (ht : t < 6) (h : okF e g t = true) : 1 ≤ wF e g t := by
  have h1 := ((okF_i _ _ _).mp h).1
  have h2 := (wF_b (g := g) he ht).1
  omega
theorem ok_0 (he : EB e) (ht : t < 6) : okF e (fun _ => false) t = true := by
  have h0 := kF_2 he ht (show 0 < 4 by decide)
  have h1 := kF_2 he ht (show 1 < 4 by decide)
  have h2 := kF_2 he ht (show 2 < 4 by decide)
  have h3 := kF_2 he ht (show 3 < 4 by decide)
  refine (okF_i _ _ _).mpr ⟨?_, fun f hf => Or.inl (fun h => ?_)⟩
  · have : 0 < wF e (fun _ => false) t := Int.add_pos (Int.mul_pos (Int.mul_pos (by omega) (by omega)) (by omega)) (Int.mul_pos (Int.mul_pos (by omega) (by omega)) (by omega))
    omega
  · have := kF_2 he ht hf
    omega
theorem uF_b (he : EB e) (ht : t < 6) : (uF e t f).natAbs ≤ 42000000000 := by
  obtain ⟨-, -, -, -, h4, hE, hN, h5⟩ := he
  have h4 := h4 t ht
  have hu : (e 4 t * e 5 2).natAbs ≤ 420000 := ab_mul (m := 420) (n := 1000) (by omega) (by omega)
  have h1 : (e 5 1 * (e 4 t * e 5 2)).natAbs ≤ 42000000000 := ab_mul (m := 100000) (n := 420000) hN hu
  have h0 : (e 5 0 * (e 4 t * e 5 2)).natAbs ≤ 42000000000 := ab_mul (m := 100000) (n := 420000) hE hu
  unfold uF
  match f with
  | 0 => exact h1
  | 1 => exact h0
  | 2 => exact ab_neg h1
  | _ + 3 => exact ab_neg h0
theorem sW_b {n e s w x y : Int} (hn : n.natAbs ≤ 18) (he : e.natAbs ≤ 18) (hs : s.natAbs ≤ 18) (hw : w.natAbs ≤ 18) (hx : x.natAbs ≤ 12000000) (hy : y.natAbs ≤ 12000000) (f : Nat) : (sW n e s w x y f).natAbs ≤ 31104000000 := by
  have A : ∀ {p q r x y : Int}, p.natAbs ≤ 18 → q.natAbs ≤ 18 → r.natAbs ≤ 18 → x.natAbs ≤ 12000000 → y.natAbs ≤ 12000000 → (x * (2 * p * q + r * (p + q))).natAbs ≤ 15552000000 ∧ (y * r * (p - q)).natAbs ≤ 15552000000 := by
    intro p q r x y hp hq hr hx hy
    refine ⟨ab_mul (m := 12000000) (n := 1296) hx (ab_add (m := 648) (n := 648) (ab_mul (m := 36) (n := 18) (ab_mul (m := 2) (n := 18) (by decide) hp) hq) (ab_mul (m := 18) (n := 36) hr (ab_add (m := 18) (n := 18) hp hq))), ?_⟩
    have := ab_mul (m := 216000000) (n := 36) (ab_mul (m := 12000000) (n := 18) hy hr) (ab_sub (m := 18) (n := 18) hp hq)
    omega
  unfold sW
  match f with
  | 0 => exact ab_add (m := 15552000000) (n := 15552000000) (A he hw hs hx hy).1 (A he hw hs hx hy).2
  | 1 => exact ab_sub (m := 15552000000) (n := 15552000000) (A hn hs hw hy hx).1 (A hs hn hw hy hx).2
  | 2 => exact ab_sub (m := 15552000000) (n := 15552000000) (A he hw hn hx hy).1 (A he hw hn hx hy).2
  | _ + 3 => exact ab_add (m := 15552000000) (n := 15552000000) (A hn hs he hy hx).1 (A hs hn he hy hx).2
theorem sF_b (he : EB e) (ht : t < 6) : (sF e g t f).natAbs ≤ 31104000000 := by
  have h0 := kF_b (g := g) he ht (show 0 < 4 by decide)
  have h1 := kF_b (g := g) he ht (show 1 < 4 by decide)
  have h2 := kF_b (g := g) he ht (show 2 < 4 by decide)
  have h3 := kF_b (g := g) he ht (show 3 < 4 by decide)
  obtain ⟨-, -, -, h4, -, hE, hN, h5⟩ := he
  have h4 := h4 t ht
  exact sW_b (by omega) (by omega) (by omega) (by omega) (ab_mul (m := 100000) (n := 120) hE (by omega)) (ab_mul (m := 100000) (n := 120) hN (by omega)) f
theorem dF_b (he : EB e) (ht : t < 6) (hf : f < 4) : (dF e g t f).natAbs ≤ 839808000 := by
  have h0 := kF_b (g := g) he ht hf
  exact ab_mul (m := 18000) (n := 46656) (ab_mul (m := 1000) (n := 18) (by decide) (by omega)) (ab_mul (m := 2) (n := 23328) (by decide) (wF_b he ht).2)
theorem dF_1 (he : EB e) (hj : j < 48) (hg : g j = false) (h : okF e g (j / 8) = true) : 0 < dF e g (j / 8) (j / 2 % 4) := by
  have h1 := kF_1 he hj hg
  have h2 := wF_1 he (show j / 8 < 6 by omega) h
  exact Int.mul_pos (by omega) (by omega)
theorem pF_b (he : EB e) (hj : j < 48) : (pF e g j).natAbs ≤ 22674816000000000 := by
  have hk := kF_b (g := g) he (show j / 8 < 6 by omega) (show j / 2 % 4 < 4 by omega)
  have h1 := he.1 j hj
  have hs : (sF e g (j / 8) (j / 2 % 4) * (1000 * kF e g (j / 8) (j / 2 % 4))).natAbs ≤ 559872000000000 := ab_mul (m := 31104000000) (n := 18000) (sF_b he (by omega)) (ab_mul (m := 1000) (n := 18) (by decide) (by omega))
  have hu : (uF e (j / 8) (j / 2 % 4) * (2 * wF e g (j / 8))).natAbs ≤ 1959552000000000 := ab_mul (m := 42000000000) (n := 46656) (uF_b he (by omega)) (ab_mul (m := 2) (n := 23328) (by decide) (wF_b he (by omega)).2)
  unfold pF
  refine ab_mul (m := 9) (n := 2519424000000000) (by omega) (ab_add (m := 559872000000000) (n := 1959552000000000) ?_ hu)
  split
  · exact hs
  · exact ab_neg hs
theorem hF_b (he : EB e) (hj : j < 48) : (1000 * (e 2 (j / 8) + e 1 j) * dF e g (j / 8) (j / 2 % 4)).natAbs ≤ 167961600000000000 := by
  have h1 := he.2.1 j hj
  have h2 := he.2.2.1 (j / 8) (by omega)
  exact ab_mul (m := 200000000) (n := 839808000) (ab_mul (m := 1000) (n := 200000) (by decide) (by omega)) (dF_b he (by omega) (by omega))
theorem oF_b (he : EB e) (hj : j < 48) : (oF e g j).natAbs ≤ 190636416000000000 := ab_sub (m := 22674816000000000) (n := 167961600000000000) (pF_b he hj) (hF_b he hj)
end S2
/-- the other's numbers: four times the divisor, twice the moves -/
theorem id_d (n e s w : Int) : (n + s) * (e + w) * ((n + s) + (e + w)) - (n + s) * (e - w) * (e - w) - (e + w) * (s - n) * (s - n) = 4 * (n * s * (e + w) + e * w * (n + s)) := by grind
theorem id_0 (n e s w x y : Int) : (x * ((e + w) * ((n + s) + (e + w)) - (e - w) * (e - w)) + (s - n) * (e - w) * y) - (-((n + s) * (e - w) * y + (e + w) * (s - n) * x)) = 2 * sW n e s w x y 0 := by unfold sW; grind
theorem id_1 (n e s w x y : Int) : (y * ((n + s) * ((n + s) + (e + w)) - (s - n) * (s - n)) + (s - n) * (e - w) * x) + (-((n + s) * (e - w) * y + (e + w) * (s - n) * x)) = 2 * sW n e s w x y 1 := by unfold sW; grind
theorem id_2 (n e s w x y : Int) : (x * ((e + w) * ((n + s) + (e + w)) - (e - w) * (e - w)) + (s - n) * (e - w) * y) + (-((n + s) * (e - w) * y + (e + w) * (s - n) * x)) = 2 * sW n e s w x y 2 := by unfold sW; grind
theorem id_3 (n e s w x y : Int) : (y * ((n + s) * ((n + s) + (e + w)) - (s - n) * (s - n)) + (s - n) * (e - w) * x) - (-((n + s) * (e - w) * y + (e + w) * (s - n) * x)) = 2 * sW n e s w x y 3 := by unfold sW; grind
theorem id_u (st s k u w : Int) : st * (2 * s) * 1000 * k + u * st * (4 * w) = 2 * (st * (s * (1000 * k) + u * (2 * w))) := by grind
theorem id_v (st s k u w : Int) : st * (-(2 * s)) * 1000 * k + u * st * (4 * w) = 2 * (st * (-(s * (1000 * k)) + u * (2 * w))) := by grind
theorem id_l (k w : Int) : 1000000 * (4 * w) * k = 2000 * (1000 * k * (2 * w)) := by grind
/-- a thousand times a whole fraction, cut -/
theorem td_1 {p d : Int} (hd : 0 < d) : (2 * p).tdiv (2000 * d) * 1000 + ((2 * p - (2 * p).tdiv (2000 * d) * (2000 * d)) * 1000).tdiv (2000 * d) = p.tdiv d := by
  have key : ∀ p : Int, 0 ≤ p → (2 * p) / (2000 * d) * 1000 + ((2 * p - (2 * p) / (2000 * d) * (2000 * d)) * 1000) / (2000 * d) = p / d := by
    intro p hp
    have h1 : (2 * p - (2 * p) / (2000 * d) * (2000 * d)) * 1000 = 2000 * p + (2000 * d) * (-((2 * p) / (2000 * d) * 1000)) := by grind
    rw [h1, Int.add_mul_ediv_left _ _ (by omega), Int.mul_ediv_mul_of_pos _ _ (by decide)]
    omega
  rcases Int.le_total 0 p with hp | hp
  · have h0 : 0 ≤ 2 * p - (2 * p) / (2000 * d) * (2000 * d) := by
      have := Int.emod_nonneg (2 * p) (show 2000 * d ≠ 0 by omega)
      have h2 := Int.emod_add_mul_ediv (2 * p) (2000 * d)
      have h3 : 2000 * d * ((2 * p) / (2000 * d)) = (2 * p) / (2000 * d) * (2000 * d) := Int.mul_comm _ _
      omega
    rw [Int.tdiv_eq_ediv_of_nonneg (show 0 ≤ 2 * p by omega), Int.tdiv_eq_ediv_of_nonneg (show 0 ≤ (2 * p - (2 * p) / (2000 * d) * (2000 * d)) * 1000 by omega), Int.tdiv_eq_ediv_of_nonneg hp]
    exact key p hp
  · obtain ⟨r, rfl⟩ : ∃ r, p = -r := ⟨-p, by omega⟩
    have hr : 0 ≤ r := by omega
    have h0 : 0 ≤ 2 * r - (2 * r) / (2000 * d) * (2000 * d) := by
      have := Int.emod_nonneg (2 * r) (show 2000 * d ≠ 0 by omega)
      have h2 := Int.emod_add_mul_ediv (2 * r) (2000 * d)
      have h3 : 2000 * d * ((2 * r) / (2000 * d)) = (2 * r) / (2000 * d) * (2000 * d) := Int.mul_comm _ _
      omega
    rw [show 2 * -r = -(2 * r) by omega, Int.neg_tdiv, Int.neg_tdiv, Int.tdiv_eq_ediv_of_nonneg (show 0 ≤ 2 * r by omega)]
    rw [show (-(2 * r) - -(2 * r / (2000 * d)) * (2000 * d)) * 1000 = -((2 * r - 2 * r / (2000 * d) * (2000 * d)) * 1000) by grind]
    rw [Int.neg_tdiv, Int.tdiv_eq_ediv_of_nonneg (show 0 ≤ (2 * r - (2 * r) / (2000 * d) * (2000 * d)) * 1000 by omega), Int.tdiv_eq_ediv_of_nonneg hr, ← key r hr]
    omega
theorem td_2 {p d : Int} (hd : 0 < d) : (2 * p).tdiv (2000 * d) = p.tdiv (d * 1000) := by
  rw [show 2000 * d = 2 * (d * 1000) by omega, Int.mul_tdiv_mul_of_pos _ _ (by decide)]
