
theorem nn_lt {a b : Nat} (ha : a < 2 ^ 31) (hb : b < 2 ^ 31) : nI a < nI b ↔ a < b := by rw [i32_lt, nI_toInt ha, nI_toInt hb]; omega
theorem nn_le {a b : Nat} (ha : a < 2 ^ 31) (hb : b < 2 ^ 31) : nI a ≤ nI b ↔ a ≤ b := by rw [i32_le, nI_toInt ha, nI_toInt hb]; omega
theorem nI_n0 {a : Nat} (ha : a < 2 ^ 31) : ¬ nI a < 0 := by rw [i32_lt, nI_toInt ha, show (0 : Int32).toInt = 0 from rfl]; omega
theorem tb_b : ∀ n, n < 5 → tlen n = tN n * tW n ∧ tlen n ≤ 840 ∧ tW n ≤ 42 ∧ tN n ≤ 60 ∧ 0 < tW n := by decide
section P3
variable {I I1 : Nat → Int32} {J J1 : Nat → Int64} {A A1 : Nat → Nat → Int32} {B B1 : Nat → Nat → Int64}
theorem tb_m {n k i c : Nat} (hn : n < 5) (hk : k ≤ tN n) (hi : i < k) (hc : c < tW n) : i * tW n + c < k * tW n ∧ i * tW n + c < tlen n := by
  have b := tb_b n hn
  have h1 := Nat.mul_le_mul_right (tW n) (show i + 1 ≤ k by omega)
  have h2 := Nat.mul_le_mul_right (tW n) hk
  rw [Nat.succ_mul] at h1
  omega
theorem cell_7 {n k i c : Nat} (hn : n < 5) (hw : I (30 + 3 * n) = nI (tW n)) (hs : I (32 + 3 * n) = nI k) (hk : k ≤ tN n) (hi : i < k) (hc : c < tW n) : sX5_cell n (nI i) (nI c) I J A B = some (A (31 + 3 * n) (i * tW n + c)) := by
  have b := tb_b n hn
  have hm := tb_m hn hk hi hc
  unfold sX5_cell
  rw [hw, hs, if_neg (nI_n0 (by omega)), if_neg (by rw [nn_le (by omega) (by omega)]; omega), if_neg (nI_n0 (by omega)), if_pos (by rw [nn_lt (by omega) (by omega)]; omega), pk_mul, nI_add, ck, if_pos (inB_n hm.2 (by omega)), ix_n (by omega)]
theorem full_7 {n k : Nat} (hn : n < 5) (hw : I (30 + 3 * n) = nI (tW n)) (hs : I (32 + 3 * n) = nI k) (hk : k ≤ tN n) : sX5_isFull n I J A B = some (if k < tN n then 0 else 1) := by
  have b := tb_b n hn
  have h2 := Nat.mul_le_mul_right (tW n) (show k + 1 ≤ 61 by omega)
  unfold sX5_isFull
  show some _ = _
  rw [hw, hs, nI_1, pk_mul, show Int32.ofNat (tlen n) = nI (tlen n) from rfl]
  congr 1
  by_cases h : k < tN n
  · have h3 := Nat.mul_le_mul_right (tW n) (show k + 1 ≤ tN n by omega)
    rw [if_pos h, if_pos (by rw [nn_le (by omega) (by omega)]; omega)]
  · have e : k = tN n := by omega
    subst e
    rw [if_neg h, if_neg (by rw [nn_le (by omega) (by omega), Nat.succ_mul]; omega)]
theorem open_7 {n k : Nat} (hn : n < 5) (hw : I (30 + 3 * n) = nI (tW n)) (hs : I (32 + 3 * n) = nI k) (hk : k < tN n) : sX5_open n I J A B = some (upd I (32 + 3 * n) (nI (k + 1))) := by
  unfold sX5_open
  rw [full_7 hn hw hs (by omega), if_pos hk, hs, nI_1]
  rfl
theorem put_7 {n k c : Nat} {v : Int32} (hn : n < 5) (hw : I (30 + 3 * n) = nI (tW n)) (hs : I (32 + 3 * n) = nI (k + 1)) (hk : k < tN n) (hc : c < tW n) : sX5_put n (nI c) v I J A B = some (va_up A (31 + 3 * n) (upd (A (31 + 3 * n)) (k * tW n + c) v)) := by
  have b := tb_b n hn
  have hm := tb_m hn (show k + 1 ≤ tN n by omega) (show k < k + 1 by omega) hc
  unfold sX5_put
  rw [hw, hs, if_neg (by rw [show (0 : Int32) = nI 0 from rfl, nn_le (by omega) (by omega)]; omega), if_neg (nI_n0 (by omega)), if_neg (by rw [nn_le (by omega) (by omega)]; omega), show (1 : Int32) = nI 1 from rfl, pk_sub (by omega), Nat.add_sub_cancel, pk_mul, nI_add, ck, if_pos (inB_n hm.2 (by omega)), ix_n (by omega)]
  rfl
end P3
section P4
variable {X : Txt → Int32 → (Nat → Int32) → (Nat → Int32) → Prop} {G : Nat → Nat → Int32 → Prop}
theorem ps_plate (hX : XE X) : PS_plate (RE X G) := by
  intro x1 x2 I J A B T M I1 J1 A1 B1 hr
  refine fin_2 ?_
  unfold sX7_plate sX8_plate
  refine rl_bind (jt_7 x1) (rr_bind (jt_8 x1) ?_)
  refine rb_if Iff.rfl (fun _ _ => rf_2 hX hr _) (fun h1 _ => ?_)
  refine rl_bind (rg_wi _ _ _) (rr_bind (rg_in _ _ _) ?_)
  refine rb_if Iff.rfl (fun _ _ => rf_2 hX hr _) (fun h2 _ => ?_)
  obtain ⟨h3, h4⟩ := rg_1 h2
  obtain ⟨h5, h6⟩ := rg_1 h1
  obtain ⟨k, hk, rfl⟩ := nI_of2 (n := 47) (by decide) h5 h6
  rw [show (48 : Int32) + nI k = nI (48 + k) from nI_add 48 k, show (96 : Int32) + nI k = nI (96 + k) from nI_add 96 k]
  refine rl_ck (inB_n (by omega) (by decide)) (rr_ck (inB_n (by omega) (by decide)) ?_)
  rw [ix_n (show k < 2 ^ 31 by omega), ix_n (show 48 + k < 2 ^ 31 by omega), ix_n (show 96 + k < 2 ^ 31 by omega)]
  refine rb_if (by rw [(hr.1.2.1 k (by omega)).1]) (fun _ _ => rf_2 hX hr _) (fun _ _ => ?_)
  refine rl_ck (inB_n (by omega) (by decide)) (rl_gv (rl_ck (inB_n (by omega) (by decide)) (rl_gv ?_)))
  refine rr_ck (inB_n (by omega) (by decide)) (rr_gv (rr_ck (inB_n (by omega) (by decide)) (rr_gv ?_)))
  exact ac_2 hX (RE_row hr 12 (by decide) _ _ (SR_12 hX hr.1 (show k < 48 by omega) (bt_of h3 h4))) (hr.1.2.2.1 k (by omega)).1
theorem ps_tier (hX : XE X) : PS_tier (RE X G) := by
  intro x1 x2 x3 I J A B T M I1 J1 A1 B1 hr
  refine fin_2 ?_
  unfold sX7_tier sX8_tier
  refine rl_bind (rg_wi _ _ _) (rr_bind (rg_in _ _ _) ?_)
  refine rb_if Iff.rfl (fun _ _ => rf_2 hX hr _) (fun h1 _ => ?_)
  refine rl_bind (rg_wi _ _ _) (rr_bind (rg_in _ _ _) ?_)
  refine rb_if Iff.rfl (fun _ _ => rf_2 hX hr _) (fun h2 _ => ?_)
  refine rl_gv (rr_gv ?_)
  refine rl_bind (rg_wi _ _ _) (rr_bind (rg_in _ _ _) ?_)
  refine rb_if Iff.rfl (fun _ _ => rf_2 hX hr _) (fun h3 _ => ?_)
  obtain ⟨h5, h6⟩ := rg_1 h1
  obtain ⟨k, hk, rfl⟩ := nI_of2 (n := 5) (by decide) h5 h6
  by_cases hz : x2 = 0
  · subst hz
    rw [if_pos rfl] at h3
    obtain ⟨h7, h8⟩ := rg_1 h3
    refine rl_t rfl (rr_gv (rr_gv ?_))
    rw [if_pos rfl, show (144 : Int32) + nI k = nI (144 + k) from nI_add 144 k, ix_n (show k < 2 ^ 31 by omega), ix_n (show 144 + k < 2 ^ 31 by omega)]
    refine rl_ck (inB_n (by omega) (by decide)) (rl_gv (rl_ck (inB_n (by omega) (by decide)) (rl_gv ?_)))
    refine rr_ck (inB_n (by omega) (by decide)) (rr_gv (rr_ck (inB_n (by omega) (by decide)) (rr_gv ?_)))
    exact ac_2 hX (RE_row hr 13 (by decide) _ _ (SR_13 hX hr.1 (show k < 6 by omega) (bt_of h7 h8))) (hr.1.2.2.2.1 k (by omega)).1
  · rw [if_neg hz] at h3
    obtain ⟨h7, h8⟩ := rg_1 h3
    refine rl_f hz (rr_gv (rr_gv ?_))
    rw [if_neg hz, show (150 : Int32) + nI k = nI (150 + k) from nI_add 150 k, ix_n (show k < 2 ^ 31 by omega), ix_n (show 150 + k < 2 ^ 31 by omega)]
    refine rl_ck (inB_n (by omega) (by decide)) (rl_gv (rl_ck (inB_n (by omega) (by decide)) (rl_gv ?_)))
    refine rr_ck (inB_n (by omega) (by decide)) (rr_gv (rr_ck (inB_n (by omega) (by decide)) (rr_gv ?_)))
    exact ac_2 hX (RE_row hr 14 (by decide) _ _ (SR_14 hX hr.1 (show k < 6 by omega) (bt_of h7 h8))) (hr.1.2.2.2.2.1 k (by omega)).1
theorem ps_drawing : PS_drawing (RE X G) := by
  intro x1 x2 I J A B T M I1 J1 A1 B1 hr
  obtain ⟨ew, es, k, hk, ek, hc⟩ := hr.1.2.2.2.2.2.2.2.1 1 (by decide)
  have hb : RB (sX7_drawing x1 x2 I J A B) (sX8_drawing x1 x2 I1 J1 A1 B1) (fun r r' => r = r') := by
    unfold sX7_drawing sX8_drawing
    refine rl_bind (rg_wi _ _ _) (rr_bind (rg_in _ _ _) ?_)
    have e1 : A1 1 (ix 1635) = I 35 := es.symm
    rw [e1]
    refine rb_if Iff.rfl (fun _ _ => rb_some rfl) (fun h1 _ => ?_)
    refine rl_bind (rg_wi _ _ _) (rr_bind (rg_in _ _ _) ?_)
    refine rb_if Iff.rfl (fun _ _ => rb_some rfl) (fun h2 _ => ?_)
    obtain ⟨h3, h4⟩ := rg_1 h2
    obtain ⟨c, hc2, rfl⟩ := nI_of2 (n := 5) (by decide) h3 h4
    obtain ⟨h5, h6⟩ := rg_1 h1
    have ek2 : I 35 = nI k := ek
    have hk2 : k ≤ 60 := hk
    rw [ek2] at h6
    obtain ⟨i, hi, rfl⟩ := nI_of h5
    have h7 : i < k := by
      rw [i32_le, show (1 : Int32) = nI 1 from rfl, pk_sub_toInt (by omega) (by decide), nI_toInt hi] at h6
      omega
    have hm := tb_m (n := 1) (by decide) hk h7 (show c < tW 1 by show c < 6; omega)
    refine rl_bind (cell_7 (by decide) ew ek hk h7 (show c < tW 1 by show c < 6; omega)) ?_
    unfold sX8_stepOf
    rw [show (213 : Int32) + 6 * nI i + nI c = nI (213 + 6 * i + c) by rw [show (6 : Int32) = nI 6 from rfl, show (213 : Int32) = nI 213 from rfl, pk_mul, nI_add, nI_add], ck, if_pos (inB_n (by omega) (by decide)), ix_n (by omega)]
    refine rb_some ?_
    rw [(hc _ hm.1 (fun h => absurd h (by decide))).1]
    show A1 1 (213 + (i * 6 + c)) = _
    congr 1
    omega
  obtain ⟨a, b, h1, h2, rfl⟩ := hb
  exact ⟨a, h1, h2, hr⟩
end P4

