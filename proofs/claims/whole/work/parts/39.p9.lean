
section P11
variable {X : Txt → Int32 → (Nat → Int32) → (Nat → Int32) → Prop} {G : Nat → Nat → Int32 → Prop}
theorem wl_2 {I I1 : Nat → Int32} {J J1 : Nat → Int64} {A A1 : Nat → Nat → Int32} {B B1 : Nat → Nat → Int64} {k : Nat} {x : Int32} (hk : k ≤ 9) (e1 : I 73 = nI k) (e2 : I1 41 = nI k) (hc : ∀ j, j < k → A 72 j = A1 40 j) :
    ∀ n i : Nat, k < i + n → i ≤ k → RB (lX2_isWished_2 n x (nI i) I J A B) (lX8_wish_34 n x (nI i) I1 J1 A1 B1) (fun a b => a = b) := by
  intro n
  induction n with
  | zero => intro i h1 h2; omega
  | succ n ih =>
    intro i h1 h2
    rw [lX2_isWished_2, lX8_wish_34, e1, e2]
    refine rb_if Iff.rfl (fun _ _ => rb_some rfl) (fun g _ => ?_)
    have hi : i < k := by
      rw [nn_le (by omega) (by omega)] at g
      omega
    refine rl_ck (inB_n (by omega) (by decide)) (rr_ck (inB_n (by omega) (by decide)) ?_)
    rw [ix_n (show i < 2 ^ 31 by omega), hc i hi]
    refine rb_if Iff.rfl (fun _ _ => rb_some rfl) (fun _ _ => rl_gv (rr_gv ?_))
    rw [nI_1]
    exact ih (i + 1) (by omega) (by omega)
theorem ps_wish (hX : XE X) : PS_wish (RE X G) := by
  intro x1 I J A B T M I1 J1 A1 B1 hr
  have hr0 := hr
  obtain ⟨h1, h2, h3, ⟨e4, k, hk, ek, hc⟩, h5, h6, h7, h8⟩ := hr0
  refine fin_2 ?_
  unfold sX7_wish sX8_wish
  refine rl_bind (jt_7 x1) (rr_bind (jt_8 x1) ?_)
  refine rb_if Iff.rfl (fun _ _ => rf_2 hX hr _) (fun g1 _ => ?_)
  obtain ⟨u1, u2⟩ := rg_1 g1
  have hb := bt_of u1 u2
  obtain ⟨j, hj, rfl⟩ := nI_of2 (n := 47) (by decide) u1 u2
  rw [show (48 : Int32) + nI j = nI (48 + j) from nI_add 48 j]
  refine rl_ck (inB_n (by omega) (by decide)) (rr_ck (inB_n (by omega) (by decide)) ?_)
  rw [ix_n (show j < 2 ^ 31 by omega), ix_n (show 48 + j < 2 ^ 31 by omega)]
  refine rb_if (by rw [(hr.1.2.1 j (by omega)).1]) (fun _ _ => rf_2 hX hr _) (fun _ _ => ?_)
  obtain ⟨a, b, q1, q2, rfl⟩ := wl_2 (x := nI j) (J := J) (J1 := J1) (B := B) (B1 := B1) hk ek (e4 ▸ ek) (fun j h => (hc j h).1) FU 0 (by unfold FU; omega) (Nat.zero_le _)
  have q1 : lX2_isWished_2 FU (nI j) 0 I J A B = some a := q1
  have q2 : lX8_wish_34 FU (nI j) 0 I1 J1 A1 B1 = some a := q2
  cases a with
  | inl u =>
    refine rl_bind (a := (1 : Int32)) (by unfold sX2_isWished; rw [q1]; rfl) (rr_bind q2 ?_)
    exact rl_f (by decide) (rf_2 hX hr _)
  | inr u =>
    refine rl_bind (a := (0 : Int32)) (by unfold sX2_isWished; rw [q1]; rfl) (rr_bind q2 (rl_t rfl ?_))
    show RB _ (if I1 41 = 9 then _ else _) _
    rw [← e4, ek]
    by_cases hf : k < 9
    · refine rl_t (by rw [show (9 : Int32) = nI 9 from rfl, nn_lt (by omega) (by decide)]; exact hf) (rr_f (by rw [show (9 : Int32) = nI 9 from rfl, nI_eq (by omega) (by decide)]; omega) ?_)
      refine rl_ck (inB_n hf (by decide)) (rr_ck (inB_n hf (by decide)) (rl_gv (rl_gv (rr_gv (rr_gv ?_)))))
      rw [ix_n (show k < 2 ^ 31 by omega), nI_1]
      refine ac_2 hX ?_ rfl
      refine ⟨SR_ext hX (fun k h1 h2 => upd_n I _ (by omega)) (fun a h1 h2 j => by rw [va_up_ne _ _ (by omega)]) (fun _ _ => rfl) h1, h2, h3, ⟨rfl, k + 1, by omega, rfl, fun i hi => ?_⟩, h5, h6, h7, h8⟩
      show upd (A 72) k (nI j) i = upd (A1 40) k (nI j) i ∧ bt (upd (A 72) k (nI j) i) 0 47
      by_cases e : i = k
      · subst e; rw [upd_s, upd_s]; exact ⟨rfl, hb⟩
      · rw [upd_n _ _ e, upd_n _ _ e]; exact hc i (by omega)
    · have hf2 : k = 9 := by omega
      refine rl_f (by rw [hf2]; decide) (rr_t (by rw [hf2]; rfl) (rf_2 hX hr _))
end P11
