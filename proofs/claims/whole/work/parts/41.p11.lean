section P13
variable {X : Txt → Int32 → (Nat → Int32) → (Nat → Int32) → Prop} {G : Nat → Nat → Int32 → Prop} {I I1 : Nat → Int32} {J J1 : Nat → Int64} {A A1 : Nat → Nat → Int32} {B B1 : Nat → Nat → Int64} {T : Nat → Option Txt} {M : Nat → Option Img} {K : Nat → Int32}
theorem ps_find (hX : XE X) : PS_find (RE X G) := by
  intro x1 x2 x3 I J A B T M I1 J1 A1 B1 hr
  refine fin_2 ?_
  unfold sX7_find sX8_find
  refine rl_bind (ps_7 _) (rr_bind (ei_8 _) ?_)
  refine rb_if Iff.rfl (fun _ _ => rf_2 hX hr _) (fun g1 _ => ?_)
  refine rl_bind (fc_7 _) (rr_bind (ei_8 _) ?_)
  refine rb_if Iff.rfl (fun _ _ => rf_2 hX hr _) (fun g2 _ => ?_)
  refine rl_bind (dy_7 _) (rr_bind (dy_8 _) ?_)
  refine rb_if Iff.rfl (fun _ _ => rf_2 hX hr _) (fun g3 _ => ?_)
  obtain ⟨u1, u2⟩ := rg_1 g1
  obtain ⟨i, hi, rfl⟩ := nI_of2 (n := 7) (by decide) u1 u2
  obtain ⟨u3, u4⟩ := rg_1 g2
  obtain ⟨j, hj, rfl⟩ := nI_of2 (n := 7) (by decide) u3 u4
  obtain ⟨u5, u6⟩ := rg_1 g3
  obtain ⟨d, hd, rfl⟩ := nI_of2 (n := 9999) (by decide) u5 u6
  refine rb_bind (ln_2 hX hr (by omega) (by omega) (by omega)) (fun A2 A3 h => ?_)
  exact ac_2 hX h rfl
theorem term_8 {k : Nat} (hk : k < 9) : sX8_term (nI k) I1 J1 A1 B1 = some (A1 1 (156 + k)) := by
  unfold sX8_term
  rw [show (156 : Int32) + nI k = nI (156 + k) from nI_add 156 k, ck, if_pos (inB_n (by omega) (by decide)), ix_n (by omega)]
/-- what a joint holds -/
def hdf (A : Nat → Nat → Int32) (j : Nat) : Int32 := if A 11 j = 0 then A 15 0 else A 15 1 + (A 15 0 - A 15 1) * A 12 j / 4
theorem hold_7 {j : Nat} (hj : j < 48) : sX4_holdOf (nI j) I J A B = some (hdf A j) := by
  unfold sX4_holdOf hdf
  show ck _ _ = _
  rw [ck, if_pos (inB_n hj (by decide)), ix_n (by omega)]
  by_cases h : A 11 j = 0
  · rw [if_pos h, if_pos h]; rfl
  · rw [if_neg h, if_neg h, ck, if_pos (inB_n hj (by decide))]; rfl
theorem hold_8 (h : SR X G I A T (A1 1)) {j : Nat} (hj : j < 48) : sX8_holdsOf (nI j) I1 J1 A1 B1 = some (hdf A j) := by
  have e11 := (h.2.1 j hj).1
  have e12 := (h.2.2.1 j hj).1
  have e0 := (h.2.2.2.2.2.1.1 0 (by decide)).1
  have e1 := (h.2.2.2.2.2.1.1 1 (by decide)).1
  have t0 : sX8_term 0 I1 J1 A1 B1 = some (A1 1 (156 + 0)) := term_8 (k := 0) (by decide)
  have t1 : sX8_term 1 I1 J1 A1 B1 = some (A1 1 (156 + 1)) := term_8 (k := 1) (by decide)
  unfold sX8_holdsOf hdf
  rw [show (48 : Int32) + nI j = nI (48 + j) from nI_add 48 j, show (96 : Int32) + nI j = nI (96 + j) from nI_add 96 j, ck, if_pos (inB_n (by omega) (by decide)), ix_n (show 48 + j < 2 ^ 31 by omega), ix_n (show 96 + j < 2 ^ 31 by omega), e11, t0, t1, e0, e1, e12]
  by_cases h : A1 1 (48 + j) = 0
  · rw [if_pos h, if_pos h]; rfl
  · rw [if_neg h, if_neg h]
    show ck _ _ = _
    rw [ck, if_pos (inB_n (by omega) (by decide))]
theorem ps_joint : PS_joint (RE X G) := by
  intro x1 x2 I J A B T M I1 J1 A1 B1 hr
  have hb : RB (sX7_joint x1 x2 I J A B) (sX8_joint x1 x2 I1 J1 A1 B1) (fun r r' => r = r') := by
    unfold sX7_joint sX8_joint
    refine rl_bind (jt_7 x1) (rr_bind (jt_8 x1) ?_)
    refine rb_if Iff.rfl (fun _ _ => rb_some rfl) (fun g1 _ => ?_)
    obtain ⟨u1, u2⟩ := rg_1 g1
    obtain ⟨j, hj, rfl⟩ := nI_of2 (n := 47) (by decide) u1 u2
    refine rr_bind (rg_in _ _ _) ?_
    by_cases g : rg x2 0 3 = 0
    · refine rr_t g (rl_f ?_ (rl_f ?_ (rl_f ?_ (rl_f ?_ (rb_some rfl))))) <;> (intro e; subst e; exact absurd g (by decide))
    · refine rr_f g ?_
      obtain ⟨u3, u4⟩ := rg_1 g
      obtain ⟨c, hc, rfl⟩ := nI_of2 (n := 3) (by decide) u3 u4
      rw [show (48 : Int32) + nI j = nI (48 + j) from nI_add 48 j, show (96 : Int32) + nI j = nI (96 + j) from nI_add 96 j, show (0 : Int32) + nI j = nI (0 + j) from nI_add 0 j]
      rw [ix_n (show j < 2 ^ 31 by omega), ix_n (show 48 + j < 2 ^ 31 by omega), ix_n (show 96 + j < 2 ^ 31 by omega), ix_n (show 0 + j < 2 ^ 31 by omega)]
      match c, hc with
      | 0, _ => exact rl_t rfl (rr_t rfl (rl_ck (inB_n (by omega) (by decide)) (rr_ck (inB_n (by omega) (by decide)) (rb_some (hr.1.2.1 j (by omega)).1))))
      | 1, _ => exact rl_f (by decide) (rr_f (by decide) (rl_t rfl (rr_t rfl (rl_ck (inB_n (by omega) (by decide)) (rr_ck (inB_n (by omega) (by decide)) (rb_some (hr.1.2.2.1 j (by omega)).1))))))
      | 2, _ => exact rl_f (by decide) (rr_f (by decide) (rl_f (by decide) (rr_f (by decide) (rl_t rfl (rr_t rfl (rl_bind (hold_7 (by omega)) (rr_bind (hold_8 hr.1 (by omega)) (rb_some rfl))))))))
      | 3, _ =>
        refine rl_f (by decide) (rr_f (by decide) (rl_f (by decide) (rr_f (by decide) (rl_f (by decide) (rr_f (by decide) (rl_t rfl (rl_ck (inB_n (by omega) (by decide)) (rr_ck (inB_n (by omega) (by decide)) (rb_some ?_)))))))))
        rw [Nat.zero_add]
        exact (hr.1.1 j (by omega)).1
      | c + 4, hc => omega
  obtain ⟨a, b, h1, h2, rfl⟩ := hb
  exact ⟨a, h1, h2, hr⟩
end P13
