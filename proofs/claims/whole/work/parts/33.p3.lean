
theorem tb_d : ∀ n, n < 5 → ∀ n', n' < 5 → ¬ n' = n → (tB n + tN n * tW n ≤ tB n' ∨ tB n' + tN n' * tW n' ≤ tB n) ∧ ¬ tO n' = tO n := by decide
section P5
variable {X : Txt → Int32 → (Nat → Int32) → (Nat → Int32) → Prop} {G : Nat → Nat → Int32 → Prop} {I I' I1 : Nat → Int32} {J J1 : Nat → Int64} {A A' A1 A1' : Nat → Nat → Int32} {B B1 : Nat → Nat → Int64} {T : Nat → Option Txt} {M : Nat → Option Img} {K K' : Nat → Int32}
theorem RE_set (h : RE X G I J A B T M I1 J1 A1 B1) (hI : ∀ k, (k < 10 ∨ 45 ≤ k) → I' k = I k) (hA : ∀ a, (a < 10 ∨ 45 ≤ a) → A' a = A a) (hA1 : ∀ a, ¬ a = 1 → A1' a = A1 a) (hs : SR X G I' A' T (A1' 1)) : RE X G I' J A' B T M I1 J1 A1' B1 := by
  obtain ⟨h1, h2, h3, h4, h5, h6, h7, h8⟩ := h
  refine ⟨hs, fun k hk => ?_, ?_, ?_, ?_, ?_, ?_, ?_⟩
  · rw [hA1 3 (by decide), hA1 2 (by decide)]; exact h2 k hk
  · rw [hI 7 (by decide), hA 6 (by decide), hA1 18 (by decide)]; exact h3
  · rw [hI 73 (by decide), hA 72 (by decide), hA1 40 (by decide)]; exact h4
  · rw [hI 75 (by decide), hA 74 (by decide), hA1 44 (by decide)]; exact h5
  · rw [hI 8 (by decide)]; exact h6
  · rw [hI 9 (by decide)]; exact h7
  · rw [hA1 17 (by decide)]; exact h8
/-- a table's new row -/
theorem SR_tab (hX : XE X) (h : SR X G I A T K) {n k : Nat} (hn : n < 5) (hk : k < tN n) (hs : I (32 + 3 * n) = nI k) (v : Nat → Int32) (hv : ∀ c, c < tW n → us n v c → G n c (v c))
    (hA : ∀ a, ¬ a = 31 + 3 * n → A' a = A a) (hA0 : ∀ j, j < k * tW n → A' (31 + 3 * n) j = A (31 + 3 * n) j) (hA1 : ∀ c, c < tW n → us n v c → A' (31 + 3 * n) (k * tW n + c) = v c)
    (hK : ∀ j, ¬ (tB n + k * tW n ≤ j ∧ j < tB n + k * tW n + tW n) → ¬ j = tO n → K' j = K j) (hK1 : ∀ c, c < tW n → us n v c → K' (tB n + (k * tW n + c)) = v c) (hK2 : K' (tO n) = nI (k + 1)) : SR X G (upd I (32 + 3 * n) (nI (k + 1))) A' T K' := by
  obtain ⟨h10, h11, h12, h13, h14, ⟨h15, h15b⟩, h16, htb, h23, kt, hkt, ek, ht⟩ := h
  have hr := tb_r n hn
  have hw := Nat.mul_le_mul_right (tW n) (show k + 1 ≤ tN n by omega)
  rw [Nat.succ_mul] at hw
  refine ⟨fun j hj => ?_, fun j hj => ?_, fun j hj => ?_, fun j hj => ?_, fun j hj => ?_, ⟨fun j hj => ?_, ?_⟩, fun j hj => ?_, fun n' hn' => ?_, ?_, kt, hkt, ?_, fun j hj => ?_⟩
  · rw [hA 10 (by omega), hK _ (by omega) (by omega)]; exact h10 j hj
  · rw [hA 11 (by omega), hK _ (by omega) (by omega)]; exact h11 j hj
  · rw [hA 12 (by omega), hK _ (by omega) (by omega)]; exact h12 j hj
  · rw [hA 13 (by omega), hK _ (by omega) (by omega)]; exact h13 j hj
  · rw [hA 14 (by omega), hK _ (by omega) (by omega)]; exact h14 j hj
  · rw [hA 15 (by omega), hK _ (by omega) (by omega)]; exact h15 j hj
  · rw [hA 15 (by omega)]; exact h15b
  · rw [hA 16 (by omega), hK _ (by omega) (by omega)]; exact h16 j hj
  · by_cases e : n' = n
    · subst e
      obtain ⟨e1, e2, k2, hk2, e3, e4⟩ := htb n' hn
      have ekk : k2 = k := by
        rw [hs] at e3
        have b := tb_b n' hn
        have := congrArg Int32.toNatClampNeg e3
        rw [nI_clamp (by omega), nI_clamp (by omega)] at this
        exact this.symm
      subst ekk
      refine ⟨by rw [upd_n _ _ (by omega)]; exact e1, by rw [upd_s, hK2], k2 + 1, by omega, upd_s _ _ _, fun j hj => ?_⟩
      rw [Nat.succ_mul] at hj
      by_cases hj2 : j < k2 * tW n'
      · intro hu
        rw [hA0 j hj2, hK _ (by omega) (by omega)]
        refine e4 j hj2 (fun h3 => ?_)
        have hu3 := hu h3
        subst h3
        have hj3 : j < k2 * 42 := hj2
        have e := hA0 (j / 42 * 42 + 1) (show j / 42 * 42 + 1 < k2 * 42 by omega)
        rw [e] at hu3
        exact hu3
      · obtain ⟨c, rfl⟩ : ∃ c, j = k2 * tW n' + c := ⟨j - k2 * tW n', by omega⟩
        have hc : c < tW n' := by omega
        intro hu
        have huc : us n' v c := by
          intro h3
          have hu3 := hu h3
          subst h3
          have hc3 : c < 42 := hc
          have q : (k2 * tW 3 + c) / 42 * 42 + 1 = k2 * tW 3 + 1 := by show (k2 * 42 + c) / 42 * 42 + 1 = k2 * 42 + 1; omega
          have q2 : (k2 * tW 3 + c) % 42 = c := by show (k2 * 42 + c) % 42 = c; omega
          rw [q, q2, hA1 1 (by decide) (fun _ => Nat.lt_of_lt_of_le (by decide) (Nat.le_add_right _ _))] at hu3
          rw [Nat.mod_eq_of_lt hc3, Nat.div_eq_of_lt hc3]
          exact hu3
        rw [hA1 c hc huc, hK1 c hc huc, Nat.add_comm (k2 * tW n') c, Nat.add_mul_mod_self_right, Nat.mod_eq_of_lt hc]
        exact ⟨rfl, hv c hc huc⟩
    · obtain ⟨e1, e2, k2, hk2, e3, e4⟩ := htb n' hn'
      have hr' := tb_r n' hn'
      have hd := tb_d n hn n' hn' e
      refine ⟨by rw [upd_n _ _ (by omega)]; exact e1, by rw [upd_n _ _ (by omega), hK _ (by omega) hd.2]; exact e2, k2, hk2, by rw [upd_n _ _ (by omega)]; exact e3, fun j hj => ?_⟩
      have := Nat.mul_le_mul_right (tW n') hk2
      rw [hA _ (by omega), hK _ (by omega) (by omega)]
      exact e4 j hj
  · rw [upd_n _ _ (by omega), hK _ (by omega) (by omega)]; exact h23
  · rw [upd_n _ _ (by omega)]; exact ek
  · obtain ⟨t, e1, e2⟩ := ht j hj
    refine ⟨t, e1, ?_⟩
    rw [hK _ (by omega) (by omega)]
    exact hX _ _ _ _ _ _ (fun i hi => hK _ (by omega) (by omega)) (fun i hi => hK _ (by omega) (by omega)) e2
theorem ps_clear (hX : XE X) : PS_clear (RE X G) := by
  intro I J A B T M I1 J1 A1 B1 hr
  obtain ⟨h1, h2, h3, h4, h5, h6, h7, h8⟩ := hr
  refine ⟨I 73, upd I 73 0, upd I1 41 0, rfl, by rw [h4.1]; rfl, ?_⟩
  exact ⟨SR_ext hX (fun k h1 h2 => upd_n I 0 (by omega)) (fun _ _ _ _ => rfl) (fun _ _ => rfl) h1, h2, h3, ⟨rfl, 0, by decide, rfl, fun j hj => absurd hj (by omega)⟩, h5, h6, h7, h8⟩
theorem ps_night : PS_night (RE X G) := by
  intro x1 I J A B T M I1 J1 A1 B1 hr
  obtain ⟨k, hk, ek, e1, hc⟩ := hr.2.2.2.2.1
  have hz : ∀ x a b : Int32, b < a → rg x a b = 0 := by
    intro x a b h
    unfold rg
    by_cases h1 : x < a
    · rw [if_pos h1]
    · rw [if_neg h1, if_pos (by rw [i32_lt] at h h1 ⊢; omega)]
  have hb : RB (sX7_night x1 I J A B) (sX8_night x1 I1 J1 A1 B1) (fun r r' => r = r') := by
    unfold sX7_night sX8_night
    refine rl_bind (rg_wi _ _ _) (rr_bind (rg_in _ _ _) ?_)
    rcases e1 with e1 | ⟨rfl, e1⟩
    case inr =>
      rw [e1, ek]
      refine rl_t (hz _ _ _ (by decide)) (rr_t (hz _ _ _ (by decide)) (rb_some rfl))
    rw [ek.trans e1.symm]
    refine rb_if Iff.rfl (fun _ _ => rb_some rfl) (fun h1 _ => ?_)
    rw [e1, ← ek] at h1
    obtain ⟨h5, h6⟩ := rg_1 h1
    rw [ek] at h6
    obtain ⟨i, hi, rfl⟩ := nI_of h5
    have h7 : i < k := by
      rw [i32_le, show (1 : Int32) = nI 1 from rfl, pk_sub_toInt (by omega) (by decide), nI_toInt hi] at h6
      omega
    refine rl_ck (inB_n (by omega) (by decide)) (rr_ck (inB_n (by omega) (by decide)) (rb_some ?_))
    rw [ix_n hi]
    exact hc i h7
  obtain ⟨a, b, h1, h2, rfl⟩ := hb
  exact ⟨a, h1, h2, hr⟩
end P5

