/-- what binds a text to the reference's words -/
def XX (t : Txt) (n : Int32) (f g : Nat → Int32) : Prop := ∃ (N c s : Nat) (tk vl : Nat → Int32), N ≤ 400 ∧ n = nI N ∧ (∀ i, i < N → f i = tk i ∧ g i = vl i) ∧ tk N = 0 ∧ c < 12 ∧ t.1 = 4 * (c + 1) ∧ t.2.1 = 2 * s ∧ s ≤ 200 ∧ EC tk vl t.2.2.2 t.2.2.1 (c + 1) (N + 1) s
theorem xe_x : XE XX := by
  intro t n f g f' g' hf hg h
  obtain ⟨N, c, s, tk, vl, h1, h2, h3, h4⟩ := h
  exact ⟨N, c, s, tk, vl, h1, h2, fun i hi => ⟨(hf i (by omega)).trans (h3 i hi).1, (hg i (by omega)).trans (h3 i hi).2⟩, h4⟩
section Y9
variable {X : Txt → Int32 → (Nat → Int32) → (Nat → Int32) → Prop} {G : Nat → Nat → Int32 → Prop} {I I' : Nat → Int32} {A A' : Nat → Nat → Int32} {T : Nat → Option Txt} {K K' : Nat → Int32}
/-- a text more -/
theorem SR_txt (hX : XE X) {k : Nat} (hk8 : k < 8) (e23 : I 23 = nI k) {t : Txt} (hI : ∀ k, 10 ≤ k → k < 45 → ¬ k = 23 → I' k = I k) (hI' : I' 23 = nI (k + 1)) (hA : ∀ k, 10 ≤ k → k < 45 → ∀ j, A' k j = A k j) (hK4 : K' 1634 = nI (k + 1)) (hK : ∀ j, ¬ j = 1634 → ¬ j = 1639 + k → ¬ (1647 + 400 * k ≤ j ∧ j < 2047 + 400 * k) → ¬ (4847 + 400 * k ≤ j ∧ j < 5247 + 400 * k) → K' j = K j) (hT : X t (K' (1639 + k)) (fun i => K' (1647 + 400 * k + i)) (fun i => K' (4847 + 400 * k + i))) (h : SR X G I A T K) : SR X G I' A' (va_up T k (some t)) K' := by
  obtain ⟨h10, h11, h12, h13, h14, ⟨h15, h15b⟩, h16, htb, h23, k', hk, ek, ht⟩ := h
  have hkk : k' = k := by
    rw [e23, nI_eq (by omega) (by omega)] at ek
    exact ek.symm
  subst hkk
  refine ⟨fun j hj => ?_, fun j hj => ?_, fun j hj => ?_, fun j hj => ?_, fun j hj => ?_, ⟨fun j hj => ?_, ?_⟩, fun j hj => ?_, fun n hn => ?_, ?_, k' + 1, by omega, hI', fun j hj => ?_⟩
  · rw [hA 10 (by omega) (by omega), hK _ (by omega) (by omega) (by omega) (by omega)]; exact h10 j hj
  · rw [hA 11 (by omega) (by omega), hK _ (by omega) (by omega) (by omega) (by omega)]; exact h11 j hj
  · rw [hA 12 (by omega) (by omega), hK _ (by omega) (by omega) (by omega) (by omega)]; exact h12 j hj
  · rw [hA 13 (by omega) (by omega), hK _ (by omega) (by omega) (by omega) (by omega)]; exact h13 j hj
  · rw [hA 14 (by omega) (by omega), hK _ (by omega) (by omega) (by omega) (by omega)]; exact h14 j hj
  · rw [hA 15 (by omega) (by omega), hK _ (by omega) (by omega) (by omega) (by omega)]; exact h15 j hj
  · rw [hA 15 (by omega) (by omega), hA 15 (by omega) (by omega)]; exact h15b
  · rw [hA 16 (by omega) (by omega), hK _ (by omega) (by omega) (by omega) (by omega)]; exact h16 j hj
  · obtain ⟨e1, e2, k, hk, e3, e4⟩ := htb n hn
    have hr : tB n + tN n * tW n ≤ 1633 ∧ (tO n = 1633 ∨ (1635 ≤ tO n ∧ tO n ≤ 1638)) := by
      rcases (by omega : n = 0 ∨ n = 1 ∨ n = 2 ∨ n = 3 ∨ n = 4) with rfl | rfl | rfl | rfl | rfl <;> decide
    refine ⟨by rw [hI _ (by omega) (by omega) (by omega)]; exact e1, by rw [hI _ (by omega) (by omega) (by omega), hK _ (by omega) (by omega) (by omega) (by omega)]; exact e2, k, hk, by rw [hI _ (by omega) (by omega) (by omega)]; exact e3, fun j hj => ?_⟩
    have := Nat.mul_le_mul_right (tW n) hk
    rw [show A' (31 + 3 * n) = A (31 + 3 * n) from funext (hA _ (by omega) (by omega)), hK _ (by omega) (by omega) (by omega) (by omega)]
    exact e4 j hj
  · rw [hI', hK4]
  · by_cases q : j = k'
    · subst q
      exact ⟨t, va_up_self _ _ _, hT⟩
    · obtain ⟨t', e1, e2⟩ := ht j (by omega)
      refine ⟨t', by rw [va_up_ne _ _ q]; exact e1, ?_⟩
      rw [hK _ (by omega) (by omega) (by omega) (by omega)]
      exact hX _ _ _ _ _ _ (fun i hi => hK _ (by omega) (by omega) (by omega) (by omega)) (fun i hi => hK _ (by omega) (by omega) (by omega) (by omega)) e2
end Y9
section Y9a
variable {I1 : Nat → Int32} {J1 : Nat → Int64} {B1 : Nat → Nat → Int64}
/-- the words kept -/
theorem ru_64 {k n : Nat} (hk : k < 8) (hn : n ≤ 400) (e25 : I1 25 = nI n) : ∀ (f i : Nat) (A1 : Nat → Nat → Int32), n < i + f → i ≤ n → ∃ A2, lX8_rule_64 f (nI k) (nI i) I1 J1 A1 B1 = some A2 ∧ (∀ b, ¬ b = 1 → A2 b = A1 b) ∧ (∀ j, i ≤ j → j < n → A2 1 (1647 + 400 * k + j) = A1 22 j ∧ A2 1 (4847 + 400 * k + j) = A1 23 j) ∧ ∀ j, ¬ (1647 + 400 * k + i ≤ j ∧ j < 2047 + 400 * k) → ¬ (4847 + 400 * k + i ≤ j ∧ j < 5247 + 400 * k) → A2 1 j = A1 1 j := by
  intro f
  induction f with
  | zero => intro i A1 h1 h2; omega
  | succ f ih =>
    intro i A1 hf hi
    rw [lX8_rule_64, e25]
    by_cases c : n ≤ i
    · rw [if_pos ((nn_le (by omega) (by omega)).mpr c)]
      exact ⟨A1, rfl, fun _ _ => rfl, fun j h1 h2 => by omega, fun _ _ _ => rfl⟩
    · rw [if_neg (by rw [nn_le (by omega) (by omega)]; exact c), show (1647 : Int32) + 400 * nI k + nI i = nI (1647 + 400 * k + i) by rw [show (1647 : Int32) = nI 1647 from rfl, show (400 : Int32) = nI 400 from rfl, pk_mul, nI_add, nI_add], show (4847 : Int32) + 400 * nI k + nI i = nI (4847 + 400 * k + i) by rw [show (4847 : Int32) = nI 4847 from rfl, show (400 : Int32) = nI 400 from rfl, pk_mul, nI_add, nI_add], ck, if_pos (inB_n (by omega) (by decide)), ck, if_pos (inB_n (by omega) (by decide))]
      dsimp only [gv]
      rw [ck, if_pos (inB_n (by omega) (by decide)), ck, if_pos (inB_n (by omega) (by decide)), ix_n (by omega), ix_n (by omega), ix_n (by omega), nI_1, va_up_self, va_up_ne _ _ (show ¬ 23 = 1 by decide)]
      obtain ⟨A2, i1, i2, i3, i4⟩ := ih (i + 1) (va_up (va_up A1 1 (upd (A1 1) (1647 + 400 * k + i) (A1 22 i))) 1 (upd (upd (A1 1) (1647 + 400 * k + i) (A1 22 i)) (4847 + 400 * k + i) (A1 23 i))) (by omega) (by omega)
      refine ⟨A2, i1, fun b hb => by rw [i2 b hb, va_up_ne _ _ hb, va_up_ne _ _ hb], fun j h1 h2 => ?_, fun j h1 h2 => ?_⟩
      · by_cases q : j = i
        · subst q
          rw [i4 _ (by omega) (by omega), i4 _ (by omega) (by omega), va_up_self, upd_n _ _ (by omega), upd_s, upd_s]
          exact ⟨rfl, rfl⟩
        · obtain ⟨w1, w2⟩ := i3 j (by omega) h2
          rw [w1, w2, va_up_ne _ _ (by decide), va_up_ne _ _ (by decide), va_up_ne _ _ (by decide), va_up_ne _ _ (by decide)]
          exact ⟨rfl, rfl⟩
      · rw [i4 j (by omega) (by omega), va_up_self, upd_n _ _ (by omega), upd_n _ _ (by omega)]
end Y9a
