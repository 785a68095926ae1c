theorem id_m (st s k u w m : Int) (hm : m = 2 * s) : st * m * 1000 * k + u * st * (4 * w) = 2 * (st * (s * (1000 * k) + u * (2 * w))) := by subst hm; exact id_u st s k u w
theorem id_o (p d x y : Int) : 2 * p - x * (2000 * d) - y * (2000 * d) = 2 * (p - 1000 * (x + y) * d) := by grind
section S8
variable {e : Nat → Nat → Int} {g : Nat → Bool} {t w : Nat} {c : Int32} {I : Nat → Int32} {J : Nat → Int64} {A : Nat → Nat → Int32} {B : Nat → Nat → Int64}
/-- what lays() left for a tier -/
def LY (e : Nat → Nat → Int) (g : Nat → Bool) (t : Nat) (J : Nat → Int64) (B : Nat → Nat → Int64) : Prop := J 7 = lI (4 * wF e g t) ∧ J 10 = lI (uF e t 0) ∧ J 11 = lI (uF e t 1) ∧ (∀ f, f < 4 → B 5 f = lI (kF e g t f)) ∧ (∀ f, f < 4 → B 6 f = lI (2 * sF e g t f))
theorem pu_8 {j : Nat} {x : Int32} (hj : j < 48) (h0 : ∀ j, j < 48 → (A 1 j).toInt = e 0 j) (h2 : ∀ t, t < 6 → (A 1 (150 + t)).toInt = e 2 t) (hl : LY e g (j / 8) J B) : SP (sX8_pulls (nI j) x I J A B) (fun J2 => (∀ k, ¬ k = 12 → ¬ k = 13 → J2 k = J k) ∧ J2 13 = lI (2000 * dF e g (j / 8) (j / 2 % 4)) ∧ J2 12 = lI (if x = 0 then 2 * pF e g j else 2 * pF e g j - e 2 (j / 8) * (2000 * dF e g (j / 8) (j / 2 % 4)))) := by
  obtain ⟨j7, j10, j11, b5, b6⟩ := hl
  have hf : j / 2 % 4 < 4 := by omega
  have k5 := b5 _ hf
  have k6 := b6 _ hf
  have e1 : nI j / (2 : Int32) = nI (j / 2) := pk_div (by omega) (by decide) (by decide)
  have e2 : nI (j / 2) - nI (j / 2) / (4 : Int32) * 4 = nI (j / 2 % 4) := pk_rem (by omega) (by decide) (by decide)
  have e3 : nI j - nI (j / 2) * (2 : Int32) = nI (j % 2) := by rw [← e1]; exact pk_rem (by omega) (by decide) (by decide)
  have e4 : nI j / (8 : Int32) = nI (j / 8) := pk_div (by omega) (by decide) (by decide)
  have e5 : (150 : Int32) + nI (j / 8) = nI (150 + j / 8) := nI_add 150 _
  unfold sX8_pulls
  rw [e1, e2, e3, e4, e5, Int32.zero_add]
  refine sp_gv ?_
  refine sp_ck (inB_n hf (by decide)) ?_
  rw [ix_n (show j / 2 % 4 < 2 ^ 31 by omega), ix_n (show j < 2 ^ 31 by omega), ix_n (show 150 + j / 8 < 2 ^ 31 by omega)]
  refine sp_gvE k5 ?_
  have hu : (if nI (j / 2 % 4) = 0 then J 10 else if nI (j / 2 % 4) = 2 then -J 10 else if nI (j / 2 % 4) = 1 then J 11 else -J 11) = lI (uF e (j / 8) (j / 2 % 4)) := by
    rw [j10, j11, ← l_neg, ← l_neg]
    generalize j / 2 % 4 = f at hf
    match f, hf with
    | 0, _ => rfl
    | 1, _ => rfl
    | 2, _ => rfl
    | 3, _ => rfl
    | f + 4, hf => omega
  refine sp_gvE hu ?_
  have hlow : (1000000 : Int64) * J 7 * lI (kF e g (j / 8) (j / 2 % 4)) = lI (2000 * dF e g (j / 8) (j / 2 % 4)) := by
    rw [j7, show (1000000 : Int64) = lI 1000000 by decide +kernel, ← l_mul, ← l_mul, id_l]
    rfl
  refine sp_gvE (congrArg (vp_updL J 13) hlow) ?_
  refine sp_ck (inB_n (by omega) (by decide)) ?_
  refine sp_gv ?_
  have tail : ∀ m : Int, (m = (if j % 2 = 0 then 2 * sF e g (j / 8) (j / 2 % 4) else -(2 * sF e g (j / 8) (j / 2 % 4)))) → SP ((fun (y2_j104 : Int64) (J : Nat → Int64) => ck (inB (nI j) 8047) <| gv (vp_updL J 12 (((((((A 1 j)).toInt64) * y2_j104) * 1000) * lI (kF e g (j / 8) (j / 2 % 4))) + ((lI (uF e (j / 8) (j / 2 % 4)) * (((A 1 j)).toInt64)) * (J 7)))) fun J => if x = 0 then (some J) else ck (inB (nI (150 + j / 8)) 8047) <| gv (vp_updL J 12 ((J 12) - ((((A 1 (150 + j / 8))).toInt64) * (J 13)))) fun J => some J) (lI m) (vp_updL J 13 (lI (2000 * dF e g (j / 8) (j / 2 % 4))))) (fun J2 => (∀ k, ¬ k = 12 → ¬ k = 13 → J2 k = J k) ∧ J2 13 = lI (2000 * dF e g (j / 8) (j / 2 % 4)) ∧ J2 12 = lI (if x = 0 then 2 * pF e g j else 2 * pF e g j - e 2 (j / 8) * (2000 * dF e g (j / 8) (j / 2 % 4)))) := by
    intro m hm
    dsimp only
    refine sp_ck (inB_n (by omega) (by decide)) ?_
    have hup : (A 1 j).toInt64 * lI m * 1000 * lI (kF e g (j / 8) (j / 2 % 4)) + lI (uF e (j / 8) (j / 2 % 4)) * (A 1 j).toInt64 * vp_updL J 13 (lI (2000 * dF e g (j / 8) (j / 2 % 4))) 7 = lI (2 * pF e g j) := by
      rw [ul_n (by decide), j7, l_32 (h0 j hj), show (1000 : Int64) = lI 1000 by decide +kernel]
      simp only [← l_mul, ← l_add]
      unfold pF
      by_cases hp : j % 2 = 0
      · rw [if_pos hp] at hm
        rw [if_pos hp, id_m _ _ _ _ _ _ hm]
      · rw [if_neg hp] at hm
        rw [if_neg hp, id_m _ (-(sF e g (j / 8) (j / 2 % 4))) _ _ _ _ (by omega), Int.neg_mul]
    refine sp_gvE (congrArg (vp_updL _ 12) hup) ?_
    by_cases hx : x = 0
    · refine sp_t hx (sp_some ⟨fun k k1 k2 => by rw [ul_n k1, ul_n k2], (ul_n (by decide)).trans ul_s, ?_⟩)
      rw [if_pos hx]
      exact ul_s
    · refine sp_f hx (sp_ck (inB_n (by omega) (by decide)) ?_)
      refine sp_gv (sp_some ⟨fun k k1 k2 => by rw [ul_n k1, ul_n k1, ul_n k2], by rw [ul_n (by decide), ul_n (by decide)]; exact ul_s, ?_⟩)
      rw [ul_s, ul_s, ul_n (by decide), ul_s, if_neg hx, l_32 (h2 (j / 8) (by omega)), ← l_mul, ← l_sub]
  by_cases hp : j % 2 = 0
  · refine sp_t (by rw [hp]; rfl) (sp_ck (inB_n hf (by decide)) ?_)
    rw [k6]
    exact tail _ (by rw [if_pos hp])
  · refine sp_f (by rw [show (0 : Int32) = nI 0 from rfl, nI_eq (by omega) (by decide)]; exact hp) (sp_ck (inB_n hf (by decide)) ?_)
    rw [k6, ← l_neg]
    exact tail _ (by rw [if_neg hp])
theorem th_8 {p d : Int} (hp : p.natAbs ≤ 400000000000000000) (hd : 0 < d) (hd2 : d.natAbs ≤ 839808000) : sX8_thousand (lI (2 * p)) (lI (2000 * d)) = some (lI (p.tdiv d)) := by
  unfold sX8_thousand
  have hn : nzL (lI (2000 * d)) = true := l_nz (by omega) (by omega)
  have hq : (2 * p - (2 * p).tdiv (2000 * d) * (2000 * d)).natAbs ≤ 2000 * 839808000 := by
    have h1 := Int.tmod_add_mul_tdiv (2 * p) (2000 * d)
    have h2 : 2000 * d * (2 * p).tdiv (2000 * d) = (2 * p).tdiv (2000 * d) * (2000 * d) := Int.mul_comm _ _
    have h3 : (2 * p - (2 * p).tdiv (2000 * d) * (2000 * d)) = (2 * p).tmod (2000 * d) := by omega
    rw [h3, Int.natAbs_tmod]
    have := Nat.mod_lt (2 * p).natAbs (show 0 < (2000 * d).natAbs by omega)
    omega
  simp only [ck, if_pos hn]
  rw [l_td (by omega) (by omega) (by omega), show (1000 : Int64) = lI 1000 by decide +kernel]
  simp only [← l_mul, ← l_sub]
  rw [l_td (by omega) (by omega) (by omega), ← l_add, td_1 hd]
theorem ng_8 : ∀ (n p : Nat) (A : Nat → Nat → Int32), 48 < p + n → p ≤ 48 → (∀ i, i < p → A 4 i = 0) → ∃ A2, lX8_noneGone_2 n (nI p) I J A B = some A2 ∧ (∀ a, ¬ a = 4 → A2 a = A a) ∧ ∀ i, i < 48 → A2 4 i = 0 := by
  intro n
  induction n with
  | zero => intro p A h1 h2; omega
  | succ n ih =>
    intro p A h1 h2 h0
    rw [lX8_noneGone_2]
    by_cases hp : p = 48
    · subst hp
      rw [if_pos (by decide)]
      exact ⟨A, rfl, fun _ _ => rfl, h0⟩
    · rw [if_neg (by rw [show (48 : Int32) = nI 48 from rfl, nn_le (by decide) (by omega)]; omega), ck, if_pos (inB_n (by omega) (by decide)), ix_n (by omega)]
      show ∃ A2, lX8_noneGone_2 n (nI p + 1) I J (va_up A 4 (upd (A 4) p 0)) B = some A2 ∧ _
      rw [nI_1]
      obtain ⟨A2, q1, q2, q3⟩ := ih (p + 1) (va_up A 4 (upd (A 4) p 0)) (by omega) (by omega) (fun i hi => by
        rw [va_up_self]
        by_cases q : i = p
        · subst q; rw [upd_s]
        · rw [upd_n _ _ q]; exact h0 i (by omega))
      exact ⟨A2, q1, fun a ha => by rw [q2 a ha, va_up_ne _ _ ha], q3⟩
theorem ng_9 : ∃ A2, sX8_noneGone I J A B = some A2 ∧ (∀ a, ¬ a = 4 → A2 a = A a) ∧ ∀ i, i < 48 → A2 4 i = if (fun _ => false) i = true then 1 else 0 := by
  obtain ⟨A2, q1, q2, q3⟩ := ng_8 (I := I) (J := J) (B := B) FU 0 A (by unfold FU; omega) (by omega) (fun i hi => by omega)
  have q1 : lX8_noneGone_2 FU 0 I J A B = some A2 := q1
  exact ⟨A2, by unfold sX8_noneGone; rw [q1]; rfl, q2, fun i hi => by rw [q3 i hi]; rfl⟩
end S8
