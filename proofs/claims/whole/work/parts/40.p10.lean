
section P12
variable {X : Txt → Int32 → (Nat → Int32) → (Nat → Int32) → Prop} {G : Nat → Nat → Int32 → Prop} {I I1 : Nat → Int32} {J J1 : Nat → Int64} {A A1 : Nat → Nat → Int32} {B B1 : Nat → Nat → Int64}
abbrev kn_R (A A1 : Nat → Nat → Int32) : Prop := ∀ j, j < 64 → (A 16 j = 10000 ∧ A1 1 (573 + j) = -1) ∨ (A 16 j = A1 1 (573 + j) ∧ bt (A 16 j) 0 9999)
theorem kb_8 (h16 : kn_R A A1) {i j : Nat} (hi : i ≤ 7) (hj : j ≤ 7) {d : Int32} (hd : d.toInt ≤ 9999) : sX8_knewBy (nI i) (nI j) d I1 J1 A1 B1 = some (if A 16 (i * 8 + j) ≤ d then 1 else 0) := by
  unfold sX8_knewBy
  rw [kn_k, ck, if_pos (inB_n (by omega) (by decide)), ix_n (by omega)]
  show some _ = some _
  congr 1
  rcases h16 (i * 8 + j) (by omega) with ⟨a1, a2⟩ | ⟨a1, a2⟩
  · rw [a2, if_pos rfl, a1, if_neg (by rw [i32_le, show (10000 : Int32).toInt = 10000 from rfl]; omega)]
  · rw [← a1, if_neg (fun e => by rw [e] at a2; exact absurd a2.1 (by decide))]
    by_cases hle : A 16 (i * 8 + j) ≤ d
    · rw [if_pos hle, if_neg (by rw [i32_lt]; rw [i32_le] at hle; omega)]
    · rw [if_neg hle, if_pos (by rw [i32_lt]; rw [i32_le] at hle; omega)]
theorem fo_2 (h16 : kn_R A A1) {i f : Nat} (hi : i ≤ 7) (hf : f ≤ 7) {x2 x3 x4 : Int32} (hd : (x2 - x3).toInt ≤ 9999) :
    ∀ (n p : Nat) (m x6 : Int32), 8 < p + n → p ≤ 8 → (m ≤ x2 - x3 ↔ ¬ x6 = 0) → (x6 = 0 ∨ x6 = 1) → RB (lX4_firstOfOthers_7 n (nI i) (nI f) m (nI p) I J A B) (lX8_owed_56 n (nI i) x2 x3 x4 (nI f) x6 (nI p) I1 J1 A1 B1) (fun a b => (a ≤ x2 - x3 ↔ ¬ b = 0) ∧ (b = 0 ∨ b = 1)) := by
  intro n
  induction n with
  | zero => intro p m x6 h1 h2; omega
  | succ n ih =>
    intro p m x6 h1 h2 h3 h4
    rw [lX4_firstOfOthers_7, lX8_owed_56]
    refine rb_if Iff.rfl (fun _ _ => rb_some ⟨h3, h4⟩) (fun g _ => ?_)
    have hp : p < 8 := by
      rw [show (8 : Int32) = nI 8 from rfl, nn_le (by decide) (by omega)] at g
      omega
    by_cases e : nI p = nI i
    · refine rl_t e (rl_gv ?_)
      (try rw [nI_1])
      rcases h4 with h4 | h4
      · subst h4
        refine rr_t rfl (rr_t e (rr_gv ?_))
        (try rw [nI_1])
        exact ih (p + 1) m 0 (by omega) (by omega) h3 (Or.inl rfl)
      · subst h4
        refine rr_f (by decide) (rr_gv ?_)
        (try rw [nI_1])
        exact ih (p + 1) m 1 (by omega) (by omega) h3 (Or.inr rfl)
    · refine rl_f e ?_
      rw [kn_i]
      refine rl_ck (inB_n (by omega) (by decide)) (rl_gv (rl_gv ?_))
      rw [ix_n (show p * 8 + f < 2 ^ 31 by omega), nI_1]
      rcases h4 with h4 | h4
      · subst h4
        refine rr_t rfl (rr_f e (rr_bind (kb_8 h16 (by omega) hf hd) ?_))
        have hm : ¬ m ≤ x2 - x3 := fun h => (h3.mp h) rfl
        by_cases hle : A 16 (p * 8 + f) ≤ x2 - x3
        · rw [if_pos hle]
          refine rr_f (by decide) (rr_gv ?_)
          (try rw [nI_1])
          refine ih (p + 1) _ 1 (by omega) (by omega) ⟨fun _ => by decide, fun _ => ?_⟩ (Or.inr rfl)
          rw [if_pos (by rw [i32_lt]; rw [i32_le] at hle hm; omega)]
          exact hle
        · rw [if_neg hle]
          refine rr_t rfl (rr_gv ?_)
          (try rw [nI_1])
          refine ih (p + 1) _ 0 (by omega) (by omega) ⟨fun h => ?_, fun h => absurd rfl h⟩ (Or.inl rfl)
          exfalso
          by_cases hlt : A 16 (p * 8 + f) < m
          · rw [if_pos hlt] at h; exact hle h
          · rw [if_neg hlt] at h; exact hm h
      · subst h4
        refine rr_f (by decide) (rr_gv ?_)
        (try rw [nI_1])
        have hm : m ≤ x2 - x3 := h3.mpr (by decide)
        refine ih (p + 1) _ 1 (by omega) (by omega) ⟨fun _ => by decide, fun _ => ?_⟩ (Or.inr rfl)
        by_cases hlt : A 16 (p * 8 + f) < m
        · rw [if_pos hlt]; rw [i32_lt] at hlt; rw [i32_le] at hm ⊢; omega
        · rw [if_neg hlt]; exact hm
theorem ow_2 (h16 : kn_R A A1) {i : Nat} (hi : i ≤ 7) {x2 x3 : Int32} (h2 : x2.toInt ≤ 9999) (hd : (x2 - x3).toInt ≤ 9999) :
    ∀ (n f : Nat) (x4 : Int32), 8 < f + n → f ≤ 8 → RB (lX7_owed_33 n (nI i) x2 x3 x4 (nI f) I J A B) (lX8_owed_29 n (nI i) x2 x3 x4 (nI f) I1 J1 A1 B1) (fun a b => a = b) := by
  intro n
  induction n with
  | zero => intro f x4 h1 h2; omega
  | succ n ih =>
    intro f x4 h1 h3
    rw [lX7_owed_33, lX8_owed_29]
    refine rb_if Iff.rfl (fun _ _ => rb_some rfl) (fun g _ => ?_)
    have hf : f < 8 := by
      rw [show (8 : Int32) = nI 8 from rfl, nn_le (by decide) (by omega)] at g
      omega
    rw [kn_i]
    refine rl_ck (inB_n (by omega) (by decide)) (rr_bind (kb_8 h16 hi (by omega) h2) ?_)
    rw [ix_n (show i * 8 + f < 2 ^ 31 by omega), nI_1]
    by_cases hle : A 16 (i * 8 + f) ≤ x2
    · refine rl_t hle (rl_gv ?_)
      rw [if_pos hle]
      refine rr_f (by decide) (rr_gv ?_)
      exact ih (f + 1) x4 (by omega) (by omega)
    · refine rl_f hle ?_
      rw [if_neg hle]
      refine rr_t rfl ?_
      have hfo : RB (sX4_firstOfOthers (nI i) (nI f) I J A B) (lX8_owed_56 FU (nI i) x2 x3 x4 (nI f) 0 0 I1 J1 A1 B1) (fun a b => (a ≤ x2 - x3 ↔ ¬ b = 0) ∧ (b = 0 ∨ b = 1)) := by
        obtain ⟨a, b, q1, q2, q3⟩ := fo_2 (J := J) (J1 := J1) (B := B) (B1 := B1) (I := I) (I1 := I1) (x4 := x4) h16 hi (show f ≤ 7 by omega) hd FU 0 10000 0 (by unfold FU; omega) (by omega) ⟨fun h => by rw [i32_le, show (10000 : Int32).toInt = 10000 from rfl] at h; omega, fun h => absurd rfl h⟩ (Or.inl rfl)
        have q1 : lX4_firstOfOthers_7 FU (nI i) (nI f) 10000 0 I J A B = some a := q1
        exact ⟨a, b, by unfold sX4_firstOfOthers; rw [q1]; rfl, q2, q3⟩
      refine rb_bind hfo (fun a b h => ?_)
      obtain ⟨h5, h6⟩ := h
      refine rr_gv (rr_gv (rr_gv ?_))
      rcases h6 with h6 | h6
      · subst h6
        have hn : ¬ a ≤ x2 - x3 := fun h => (h5.mp h) rfl
        refine rl_t (by rw [i32_lt]; rw [i32_le] at hn; omega) (rl_gv ?_)
        rw [if_pos rfl, Int32.add_zero]
        exact ih (f + 1) x4 (by omega) (by omega)
      · subst h6
        have hn : a ≤ x2 - x3 := h5.mpr (by decide)
        refine rl_f (by rw [i32_lt]; rw [i32_le] at hn; omega) (rl_gv (rl_gv ?_))
        rw [if_neg (by decide)]
        exact ih (f + 1) (x4 + 1) (by omega) (by omega)
theorem ps_owed : PS_owed (RE X G) := by
  intro x1 x2 x3 I J A B T M I1 J1 A1 B1 hr
  have h16 : kn_R A A1 := hr.1.2.2.2.2.2.2.1
  have hb : RB (sX7_owed x1 x2 x3 I J A B) (sX8_owed x1 x2 x3 I1 J1 A1 B1) (fun r r' => r = r') := by
    unfold sX7_owed sX8_owed
    refine rl_bind (ps_7 _) (rr_bind (ei_8 _) ?_)
    refine rb_if Iff.rfl (fun _ _ => rb_some rfl) (fun g1 _ => ?_)
    refine rl_bind (dy_7 _) (rr_bind (dy_8 _) ?_)
    refine rb_if Iff.rfl (fun _ _ => rb_some rfl) (fun g2 _ => ?_)
    refine rl_bind (rg_wi _ _ _) (rr_bind (dy_8 _) ?_)
    refine rb_if Iff.rfl (fun _ _ => rb_some rfl) (fun g3 _ => ?_)
    obtain ⟨u1, u2⟩ := rg_1 g1
    obtain ⟨i, hi, rfl⟩ := nI_of2 (n := 7) (by decide) u1 u2
    obtain ⟨u3, u4⟩ := rg_1 g2
    obtain ⟨a, ha, rfl⟩ := nI_of2 (n := 9999) (by decide) u3 u4
    obtain ⟨u5, u6⟩ := rg_1 g3
    obtain ⟨b, hb, rfl⟩ := nI_of2 (n := 9999) (by decide) u5 u6
    refine rb_bind (ow_2 h16 hi (by rw [nI_toInt (by omega)]; omega) (by rw [pk_sub_toInt (by omega) (by omega)]; omega) FU 0 0 (by unfold FU; omega) (by omega)) (fun a b h => rb_some h)
  obtain ⟨a, b, h1, h2, rfl⟩ := hb
  exact ⟨a, h1, h2, hr⟩
end P12
