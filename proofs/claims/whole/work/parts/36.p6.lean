
section P8
variable {X : Txt → Int32 → (Nat → Int32) → (Nat → Int32) → Prop} {G : Nat → Nat → Int32 → Prop} {I I1 : Nat → Int32} {J J1 : Nat → Int64} {A A1 A1' : Nat → Nat → Int32} {B B1 : Nat → Nat → Int64} {T : Nat → Option Txt} {M : Nat → Option Img} {K K' : Nat → Int32}
theorem SR_16 (hX : XE X) (h : SR X G I A T K) {k : Nat} (hk : k < 64) {v : Int32} (hv : bt v 0 9999) (hK0 : K' (573 + k) = v) (nK : ∀ j, ¬ j = 573 + k → K' j = K j) : SR X G I (va_up A 16 (upd (A 16) k v)) T K' := by
  obtain ⟨h10, h11, h12, h13, h14, ⟨h15, h15b⟩, h16, htb, h23, kt, hkt, ek, ht⟩ := h
  have nA : ∀ a, ¬ a = 16 → va_up A 16 (upd (A 16) k v) a = A a := fun a h => va_up_ne A _ h
  refine ⟨fun j hj => ?_, fun j hj => ?_, fun j hj => ?_, fun j hj => ?_, fun j hj => ?_, ⟨fun j hj => ?_, ?_⟩, fun j hj => ?_, fun n hn => ?_, ?_, kt, hkt, ek, fun j hj => ?_⟩
  · rw [nA 10 (by decide), nK _ (by omega)]; exact h10 j hj
  · rw [nA 11 (by decide), nK _ (by omega)]; exact h11 j hj
  · rw [nA 12 (by decide), nK _ (by omega)]; exact h12 j hj
  · rw [nA 13 (by decide), nK _ (by omega)]; exact h13 j hj
  · rw [nA 14 (by decide), nK _ (by omega)]; exact h14 j hj
  · rw [nA 15 (by decide), nK _ (by omega)]; exact h15 j hj
  · rw [nA 15 (by decide)]; exact h15b
  · rw [va_up_self]
    by_cases e : j = k
    · subst e; rw [upd_s, hK0]; exact Or.inr ⟨rfl, hv⟩
    · rw [upd_n _ _ e, nK _ (by omega)]; exact h16 j hj
  · obtain ⟨e1, e2, k2, hk2, e3, e4⟩ := htb n hn
    have hr := tb_r n hn
    have := Nat.mul_le_mul_right (tW n) hk2
    refine ⟨e1, by rw [nK _ (by omega)]; exact e2, k2, hk2, e3, fun j hj => ?_⟩
    rw [nA _ (by omega), nK _ (by omega)]
    exact e4 j hj
  · rw [nK _ (by omega)]; exact h23
  · obtain ⟨t, e1, e2⟩ := ht j hj
    refine ⟨t, e1, ?_⟩
    rw [nK _ (by omega)]
    exact hX _ _ _ _ _ _ (fun i hi => nK _ (by omega)) (fun i hi => nK _ (by omega)) e2
/-- both learn -/
theorem ln_2 (hX : XE X) (hr : RE X G I J A B T M I1 J1 A1 B1) {i j d : Nat} (hi : i ≤ 7) (hj : j ≤ 7) (hd : d ≤ 9999) : RB (sX4_learn (nI i) (nI j) (nI d) I J A B) (sX8_knows (nI i) (nI j) (nI d) I1 J1 A1 B1) (fun A2 A3 => RE X G I J A2 B T M I1 J1 A3 B1) := by
  have hv : bt (nI d) 0 9999 := by rw [bt, nI_toInt (by omega)]; omega
  have h16 := hr.1.2.2.2.2.2.2.1 (i * 8 + j) (by omega)
  unfold sX4_learn sX8_knows
  rw [kn_i, kn_k]
  refine rl_gv (rl_ck (inB_n (by omega) (by decide)) (rl_ck (inB_n (by omega) (by decide)) (rl_gv (rr_gv (rr_ck (inB_n (by omega) (by decide)) ?_)))))
  rw [ix_n (show i * 8 + j < 2 ^ 31 by omega), ix_n (show 573 + (i * 8 + j) < 2 ^ 31 by omega)]
  have hset : RE X G I J (va_up A 16 (upd (A 16) (i * 8 + j) (nI d))) B T M I1 J1 (va_up A1 1 (upd (A1 1) (573 + (i * 8 + j)) (nI d))) B1 :=
    RE_row hr 16 (by decide) _ _ (SR_16 hX hr.1 (by omega) hv (upd_s _ _ _) (fun j h => upd_n _ _ h))
  rcases h16 with ⟨a1, a2⟩ | ⟨a1, a2⟩
  · refine rr_t a2 (rr_ck (inB_n (by omega) (by decide)) (rr_gv (rb_some ?_)))
    rw [a1, if_pos (by rw [show (10000 : Int32) = nI 10000 from rfl, nn_lt (by omega) (by decide)]; omega)]
    exact hset
  · have hne : ¬ A1 1 (573 + (i * 8 + j)) = -1 := fun e => by
      rw [a1, e] at a2
      exact absurd a2.1 (by decide)
    refine rr_f hne (rr_ck (inB_n (by omega) (by decide)) ?_)
    by_cases hle : A1 1 (573 + (i * 8 + j)) ≤ nI d
    · refine rr_t hle (rb_some ?_)
      rw [if_neg (by rw [a1, i32_lt]; rw [i32_le] at hle; omega)]
      have hs := SR_16 (K' := A1 1) hX hr.1 (show i * 8 + j < 64 by omega) a2 a1.symm (fun _ _ => rfl)
      have := RE_row hr 16 (by decide) _ _ hs
      have e : va_up A1 1 (A1 1) = A1 := by
        funext a
        by_cases h : a = 1
        · subst h; exact va_up_self _ _ _
        · exact va_up_ne _ _ h
      rw [e] at this
      exact this
    · refine rr_f hle (rr_ck (inB_n (by omega) (by decide)) (rr_gv (rb_some ?_)))
      rw [if_pos (by rw [a1, i32_lt]; rw [i32_le] at hle; omega)]
      exact hset
theorem ps_tell (hX : XE X) : PS_tell (RE X G) := by
  intro x1 x2 x3 x4 I J A B T M I1 J1 A1 B1 hr
  refine fin_2 ?_
  unfold sX7_tell sX8_tell
  refine rl_bind (ps_7 _) (rr_bind (ei_8 _) ?_)
  refine rb_if Iff.rfl (fun _ _ => rf_2 hX hr _) (fun g1 _ => ?_)
  refine rl_bind (ps_7 _) (rr_bind (ei_8 _) ?_)
  refine rb_if Iff.rfl (fun _ _ => rf_2 hX hr _) (fun g2 _ => ?_)
  refine rl_bind (fc_7 _) (rr_bind (ei_8 _) ?_)
  refine rb_if Iff.rfl (fun _ _ => rf_2 hX hr _) (fun g3 _ => ?_)
  refine rl_bind (dy_7 _) (rr_bind (dy_8 _) ?_)
  refine rb_if Iff.rfl (fun _ _ => rf_2 hX hr _) (fun g4 _ => ?_)
  obtain ⟨u1, u2⟩ := rg_1 g1
  obtain ⟨i, hi, rfl⟩ := nI_of2 (n := 7) (by decide) u1 u2
  obtain ⟨u3, u4⟩ := rg_1 g2
  obtain ⟨p, hp, rfl⟩ := nI_of2 (n := 7) (by decide) u3 u4
  obtain ⟨u5, u6⟩ := rg_1 g3
  obtain ⟨j, hj, rfl⟩ := nI_of2 (n := 7) (by decide) u5 u6
  obtain ⟨u7, u8⟩ := rg_1 g4
  obtain ⟨d, hd, rfl⟩ := nI_of2 (n := 9999) (by decide) u7 u8
  have h16 := hr.1.2.2.2.2.2.2.1 (i * 8 + j) (by omega)
  have hkb : sX8_knewBy (nI i) (nI j) (nI d) I1 J1 A1 B1 = some (if A 16 (i * 8 + j) ≤ nI d then 1 else 0) := by
    unfold sX8_knewBy
    rw [kn_k, ck, if_pos (inB_n (by omega) (by decide)), ix_n (by omega)]
    show some _ = some _
    congr 1
    rcases h16 with ⟨a1, a2⟩ | ⟨a1, a2⟩
    · rw [a2, if_pos rfl, a1, if_neg (by rw [show (10000 : Int32) = nI 10000 from rfl, nn_le (by decide) (by omega)]; omega)]
    · rw [← a1, if_neg (fun e => by rw [e] at a2; exact absurd a2.1 (by decide))]
      by_cases hle : A 16 (i * 8 + j) ≤ nI d
      · rw [if_pos hle, if_neg (by rw [i32_lt]; rw [i32_le] at hle; omega)]
      · rw [if_neg hle, if_pos (by rw [i32_lt]; rw [i32_le] at hle; omega)]
  rw [kn_i]
  refine rl_ck (inB_n (by omega) (by decide)) (rr_bind hkb ?_)
  rw [ix_n (show i * 8 + j < 2 ^ 31 by omega)]
  by_cases hle : A 16 (i * 8 + j) ≤ nI d
  · refine rl_t hle ?_
    rw [if_pos hle]
    refine rr_f (by decide) ?_
    exact rb_bind (ln_2 hX hr hp hj hd) (fun A2 A3 h => ac_2 hX h rfl)
  · refine rl_f hle ?_
    rw [if_neg hle]
    exact rr_t rfl (rf_2 hX hr _)
end P8
