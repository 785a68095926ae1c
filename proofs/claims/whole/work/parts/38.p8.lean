
section P10
variable {X : Txt → Int32 → (Nat → Int32) → (Nat → Int32) → Prop} {G : Nat → Nat → Int32 → Prop}
theorem ps_terms (hX : XE X) : PS_terms (RE X G) := by
  intro x1 x2 I J A B T M I1 J1 A1 B1 hr
  obtain ⟨h15, h15b⟩ := hr.1.2.2.2.2.2.1
  refine fin_2 ?_
  unfold sX7_terms
  refine rl_bind (rg_wi _ _ _) ?_
  by_cases g1 : rg x1 0 8 = 0
  · unfold sX8_terms
    exact rl_t g1 (rr_bind (rg_in _ _ _) (rr_t g1 (rf_2 hX hr _)))
  · obtain ⟨u1, u2⟩ := rg_1 g1
    obtain ⟨k, hk, rfl⟩ := nI_of2 (n := 8) (by decide) u1 u2
    refine rl_f g1 (rl_ck (inB_n (by omega) (by decide)) (rl_ck (inB_n (by omega) (by decide)) (rl_bind (rg_wi _ _ _) ?_)))
    rw [ix_n (show k < 2 ^ 31 by omega)]
    have e8 : sX8_terms (nI k) x2 I1 J1 A1 B1 = if rg x2 (sv_0 k) (sv_1 k) = 0 then (sX8_refuses (-1) I1 J1 A1 B1).bind fun (r, I) => some (r, I, A1) else if (if nI k = 1 then x2 else A1 1 157) ≤ (if nI k = 0 then x2 else A1 1 156) then (sX8_good (A1 1 (156 + k)) I1 J1 A1 B1).bind fun (r, I) => some (r, I, va_up A1 1 (upd (A1 1) (156 + k) x2)) else (sX8_refuses (-3) I1 J1 A1 B1).bind fun (r, I) => some (r, I, A1) := by
      have q0 : A1 1 157 ≤ A1 1 156 := by rw [← (h15 0 (by decide)).1, ← (h15 1 (by decide)).1]; exact h15b
      match k, hk with
      | 0, _ =>
        show (if rg x2 1 100000 = 0 then _ else if x2 < A1 1 157 then _ else _) = if rg x2 1 100000 = 0 then _ else if A1 1 157 ≤ x2 then _ else _
        by_cases a : rg x2 1 100000 = 0
        · rw [if_pos a, if_pos a]
        · rw [if_neg a, if_neg a]
          by_cases b : x2 < A1 1 157
          · rw [if_pos b, if_neg (by rw [i32_le]; rw [i32_lt] at b; omega)]
          · rw [if_neg b, if_pos (by rw [i32_le]; rw [i32_lt] at b; omega)]; rfl
      | 1, _ =>
        show (if rg x2 1 100000 = 0 then _ else if x2 ≤ A1 1 156 then _ else _) = if rg x2 1 100000 = 0 then _ else if x2 ≤ A1 1 156 then _ else _
        rfl
      | 2, _ => show (if rg x2 0 100 = 0 then _ else _) = if rg x2 0 100 = 0 then _ else if A1 1 157 ≤ A1 1 156 then _ else _; rw [if_pos (show A1 1 157 ≤ A1 1 156 from q0)]; rfl
      | 3, _ => show (if rg x2 0 10 = 0 then _ else _) = if rg x2 0 10 = 0 then _ else if A1 1 157 ≤ A1 1 156 then _ else _; rw [if_pos (show A1 1 157 ≤ A1 1 156 from q0)]; rfl
      | 4, _ => show (if rg x2 0 50 = 0 then _ else _) = if rg x2 0 50 = 0 then _ else if A1 1 157 ≤ A1 1 156 then _ else _; rw [if_pos (show A1 1 157 ≤ A1 1 156 from q0)]; rfl
      | 5, _ => show (if rg x2 0 100 = 0 then _ else _) = if rg x2 0 100 = 0 then _ else if A1 1 157 ≤ A1 1 156 then _ else _; rw [if_pos (show A1 1 157 ≤ A1 1 156 from q0)]; rfl
      | 6, _ => show (if rg x2 0 1000 = 0 then _ else _) = if rg x2 0 1000 = 0 then _ else if A1 1 157 ≤ A1 1 156 then _ else _; rw [if_pos (show A1 1 157 ≤ A1 1 156 from q0)]; rfl
      | 7, _ => show (if rg x2 0 1000 = 0 then _ else _) = if rg x2 0 1000 = 0 then _ else if A1 1 157 ≤ A1 1 156 then _ else _; rw [if_pos (show A1 1 157 ≤ A1 1 156 from q0)]; rfl
      | 8, _ => show (if rg x2 1 40 = 0 then _ else _) = if rg x2 1 40 = 0 then _ else if A1 1 157 ≤ A1 1 156 then _ else _; rw [if_pos (show A1 1 157 ≤ A1 1 156 from q0)]; rfl
      | k + 9, hk => omega
    rw [e8]
    refine rb_if Iff.rfl (fun _ _ => rf_2 hX hr _) (fun g2 _ => rl_gv (rl_gv ?_))
    obtain ⟨u3, u4⟩ := rg_1 g2
    have w0 : A 15 (ix 0) = A1 1 156 := (h15 0 (by decide)).1
    have w1 : A 15 (ix 1) = A1 1 157 := (h15 1 (by decide)).1
    rw [w0, w1]
    refine rb_if Iff.rfl (fun g3 _ => ?_) (fun _ _ => rf_2 hX hr _)
    refine rl_ck (inB_n (by omega) (by decide)) (rl_gv (rl_ck (inB_n (by omega) (by decide)) (rl_gv ?_)))
    refine ac_2 hX (RE_row hr 15 (by decide) _ _ (SR_15 hX hr.1 (show k < 9 by omega) (bt_of u3 u4) ?_)) (h15 k (by omega)).1
    have v1 : upd (A 15) k x2 1 = if nI k = 1 then x2 else A1 1 157 := by
      by_cases e : k = 1
      · subst e; rfl
      · rw [upd_n _ _ (by omega), if_neg (by rw [show (1 : Int32) = nI 1 from rfl, nI_eq (by omega) (by decide)]; exact e)]; exact w1
    have v0 : upd (A 15) k x2 0 = if nI k = 0 then x2 else A1 1 156 := by
      by_cases e : k = 0
      · subst e; rfl
      · rw [upd_n _ _ (by omega), if_neg (by rw [show (0 : Int32) = nI 0 from rfl, nI_eq (by omega) (by decide)]; exact e)]; exact w0
    rw [v1, v0]
    exact g3
end P10
