section P18
variable {X : Txt → Int32 → (Nat → Int32) → (Nat → Int32) → Prop} {G : Nat → Nat → Int32 → Prop} {I I0 I1 : Nat → Int32} {J J1 : Nat → Int64} {A A0 A1 : Nat → Nat → Int32} {B B1 : Nat → Nat → Int64} {T T0 : Nat → Option Txt} {M : Nat → Option Img} {K : Nat → Int32}
theorem us_n {n k : Nat} (hn : n < 5) (hk : k ≤ tN n) : usedN (tlen n) (nI k) (nI (tW n)) = nI (k * tW n) := by
  have b := tb_b n hn
  have h := Nat.mul_le_mul_right (tW n) hk
  unfold usedN
  rw [pk_mul]
  by_cases e : k * tW n < tlen n
  · rw [if_pos (by rw [nn_lt (by omega) (by omega)]; exact e)]
  · rw [if_neg (by rw [nn_lt (by omega) (by omega)]; exact e)]
    congr 1
    omega
theorem cp_0 (f g : Nat → Int32) {n m j : Nat} (hm : ix (nI n) = m) (h : j < m) : va_cpy f g (ix 0) (ix 0) (ix (nI n)) j = f j := by
  rw [hm]
  show (if 0 ≤ j ∧ j < 0 + m then f (0 + (j - 0)) else g j) = f j
  rw [if_pos (by omega)]
  congr 1
  omega
theorem SR_ok (h : SR X G I A T K) : bcOK I = true := by
  have htb := h.2.2.2.2.2.2.2.1
  have one : ∀ n, n < 5 → (decide (¬ usedN (tlen n) (I (32 + 3 * n)) (I (30 + 3 * n)) < 0) && decide (ix (usedN (tlen n) (I (32 + 3 * n)) (I (30 + 3 * n))) ≤ tlen n)) = true := by
    intro n hn
    obtain ⟨e1, e2, k, hk, e3, e4⟩ := htb n hn
    have b := tb_b n hn
    have h := Nat.mul_le_mul_right (tW n) hk
    rw [e1, e3, us_n hn hk, decide_eq_true (nI_n0 (by omega)), ix_n (by omega), decide_eq_true (by omega)]
    rfl
  have a0 := one 0 (by decide)
  have a1 := one 1 (by decide)
  have a2 := one 2 (by decide)
  have a3 := one 3 (by decide)
  have a4 := one 4 (by decide)
  unfold bcOK
  exact Bool.and_eq_true_iff.mpr ⟨Bool.and_eq_true_iff.mpr ⟨Bool.and_eq_true_iff.mpr ⟨Bool.and_eq_true_iff.mpr ⟨a0, a1⟩, a2⟩, a3⟩, a4⟩
/-- a copy of a state is bound as the state is -/
theorem SR_cp (hw : ∀ n, n < 5 → I0 (30 + 3 * n) = nI (tW n)) (h : SR X G I A T K) : SR X G (bcI I0 I) (bcA A0 A I) (bcX T0 T) K := by
  obtain ⟨h10, h11, h12, h13, h14, ⟨h15, h15b⟩, h16, htb, h23, kt, hkt, ek, ht⟩ := h
  have c10 : ∀ j, j < 48 → bcA A0 A I 10 j = A 10 j := fun j hj => cp_0 _ _ (n := 48) (m := 48) (by decide) hj
  have c11 : ∀ j, j < 48 → bcA A0 A I 11 j = A 11 j := fun j hj => cp_0 _ _ (n := 48) (m := 48) (by decide) hj
  have c12 : ∀ j, j < 48 → bcA A0 A I 12 j = A 12 j := fun j hj => cp_0 _ _ (n := 48) (m := 48) (by decide) hj
  have c13 : ∀ j, j < 6 → bcA A0 A I 13 j = A 13 j := fun j hj => cp_0 _ _ (n := 6) (m := 6) (by decide) hj
  have c14 : ∀ j, j < 6 → bcA A0 A I 14 j = A 14 j := fun j hj => cp_0 _ _ (n := 6) (m := 6) (by decide) hj
  have c15 : ∀ j, j < 9 → bcA A0 A I 15 j = A 15 j := fun j hj => cp_0 _ _ (n := 9) (m := 9) (by decide) hj
  have c16 : ∀ j, j < 64 → bcA A0 A I 16 j = A 16 j := fun j hj => cp_0 _ _ (n := 64) (m := 64) (by decide) hj
  have cT : ∀ n, n < 5 → ∀ k, k ≤ tN n → I (32 + 3 * n) = nI k → bcI I0 I (30 + 3 * n) = nI (tW n) ∧ bcI I0 I (32 + 3 * n) = nI k ∧ ∀ j, j < k * tW n → bcA A0 A I (31 + 3 * n) j = A (31 + 3 * n) j := by
    intro n hn k hk e
    have hu := us_n hn hk
    have b := tb_b n hn
    have hm := Nat.mul_le_mul_right (tW n) hk
    have w := (htb n hn).1
    have w0 := hw n hn
    match n, hn with
    | 0, _ => refine ⟨w0, e, fun j hj => ?_⟩; show va_cpy (A 31) (A0 31) (ix 0) (ix 0) (ix (usedN 48 (I 32) (I 30))) j = A 31 j; rw [show I 32 = nI k from e, show I 30 = nI (tW 0) from w, show usedN 48 (nI k) (nI (tW 0)) = nI (k * tW 0) from hu]; exact cp_0 _ _ (ix_n (by omega)) hj
    | 1, _ => refine ⟨w0, e, fun j hj => ?_⟩; show va_cpy (A 34) (A0 34) (ix 0) (ix 0) (ix (usedN 360 (I 35) (I 33))) j = A 34 j; rw [show I 35 = nI k from e, show I 33 = nI (tW 1) from w, show usedN 360 (nI k) (nI (tW 1)) = nI (k * tW 1) from hu]; exact cp_0 _ _ (ix_n (by omega)) hj
    | 2, _ => refine ⟨w0, e, fun j hj => ?_⟩; show va_cpy (A 37) (A0 37) (ix 0) (ix 0) (ix (usedN 96 (I 38) (I 36))) j = A 37 j; rw [show I 38 = nI k from e, show I 36 = nI (tW 2) from w, show usedN 96 (nI k) (nI (tW 2)) = nI (k * tW 2) from hu]; exact cp_0 _ _ (ix_n (by omega)) hj
    | 3, _ => refine ⟨w0, e, fun j hj => ?_⟩; show va_cpy (A 40) (A0 40) (ix 0) (ix 0) (ix (usedN 840 (I 41) (I 39))) j = A 40 j; rw [show I 41 = nI k from e, show I 39 = nI (tW 3) from w, show usedN 840 (nI k) (nI (tW 3)) = nI (k * tW 3) from hu]; exact cp_0 _ _ (ix_n (by omega)) hj
    | 4, _ => refine ⟨w0, e, fun j hj => ?_⟩; show va_cpy (A 43) (A0 43) (ix 0) (ix 0) (ix (usedN 60 (I 44) (I 42))) j = A 43 j; rw [show I 44 = nI k from e, show I 42 = nI (tW 4) from w, show usedN 60 (nI k) (nI (tW 4)) = nI (k * tW 4) from hu]; exact cp_0 _ _ (ix_n (by omega)) hj
    | n + 5, hn => omega
  refine ⟨fun j hj => ?_, fun j hj => ?_, fun j hj => ?_, fun j hj => ?_, fun j hj => ?_, ⟨fun j hj => ?_, ?_⟩, fun j hj => ?_, fun n hn => ?_, h23, kt, hkt, ek, fun j hj => ?_⟩
  · rw [c10 j hj]; exact h10 j hj
  · rw [c11 j hj]; exact h11 j hj
  · rw [c12 j hj]; exact h12 j hj
  · rw [c13 j hj]; exact h13 j hj
  · rw [c14 j hj]; exact h14 j hj
  · rw [c15 j hj]; exact h15 j hj
  · rw [c15 0 (by decide), c15 1 (by decide)]; exact h15b
  · rw [c16 j hj]; exact h16 j hj
  · obtain ⟨e1, e2, k, hk, e3, e4⟩ := htb n hn
    obtain ⟨t1, t2, t3⟩ := cT n hn k hk e3
    refine ⟨t1, by rw [t2, ← e3]; exact e2, k, hk, t2, fun j hj hu => ?_⟩
    rw [t3 j hj]
    refine e4 j hj (fun q => ?_)
    have hu2 := hu q
    subst q
    have hj2 : j < k * 42 := hj
    rw [t3 _ (show j / 42 * 42 + 1 < k * 42 by omega)] at hu2
    exact hu2
  · have : bcX T0 T j = T j := by show (if j < 8 then T j else T0 j) = T j; rw [if_pos (by omega)]
    rw [this]
    exact ht j hj
theorem im_8 {x : Nat} (hx : x < 2) : ∀ (n p : Nat) (A : Nat → Nat → Int32), 8047 < p + n → p ≤ 8047 → ∃ A2, lX8_image_17 n (nI x) (nI p) I1 J1 A B1 = some A2 ∧ (∀ a, ¬ a = 2 → A2 a = A a) ∧ ∀ j, A2 2 j = if 8047 * x + p ≤ j ∧ j < 8047 * x + 8047 then A 1 (j - 8047 * x) else A 2 j := by
  intro n
  induction n with
  | zero => intro p A h1 h2; omega
  | succ n ih =>
    intro p A h1 h2
    rw [lX8_image_17]
    by_cases hp : p = 8047
    · subst hp
      rw [if_pos (by decide)]
      exact ⟨A, rfl, fun _ _ => rfl, fun j => by rw [if_neg (by omega)]⟩
    · rw [if_neg (by rw [show (8047 : Int32) = nI 8047 from rfl, nn_le (by decide) (by omega)]; omega)]
      rw [show (8047 : Int32) * nI x + nI p = nI (8047 * x + p) by rw [show (8047 : Int32) = nI 8047 from rfl, pk_mul, nI_add]]
      rw [ck, if_pos (inB_n (by omega) (by decide)), ck, if_pos (inB_n (by omega) (by decide)), ix_n (by omega), ix_n (by omega)]
      show ∃ A2, lX8_image_17 n (nI x) (nI p + 1) I1 J1 (va_up A 2 (upd (A 2) (8047 * x + p) (A 1 p))) B1 = some A2 ∧ _
      rw [nI_1]
      obtain ⟨A2, q1, q2, q3⟩ := ih (p + 1) (va_up A 2 (upd (A 2) (8047 * x + p) (A 1 p))) (by omega) (by omega)
      refine ⟨A2, q1, fun a ha => by rw [q2 a ha, va_up_ne _ _ ha], fun j => ?_⟩
      rw [q3 j, va_up_ne _ _ (by decide), va_up_self]
      by_cases e : j = 8047 * x + p
      · subst e
        rw [if_neg (by omega), if_pos (by omega), upd_s]
        congr 1
        omega
      · by_cases c : 8047 * x + p ≤ j ∧ j < 8047 * x + 8047
        · rw [if_pos (by omega), if_pos c]
        · rw [if_neg (by omega), if_neg c, upd_n _ _ e]
theorem bk_8 {x : Nat} (hx : x < 2) : ∀ (n p : Nat) (A : Nat → Nat → Int32), 8047 < p + n → p ≤ 8047 → ∃ A2, lX8_back_33 n (nI x) (nI p) I1 J1 A B1 = some A2 ∧ (∀ a, ¬ a = 1 → A2 a = A a) ∧ ∀ j, A2 1 j = if p ≤ j ∧ j < 8047 then A 2 (8047 * x + j) else A 1 j := by
  intro n
  induction n with
  | zero => intro p A h1 h2; omega
  | succ n ih =>
    intro p A h1 h2
    rw [lX8_back_33]
    by_cases hp : p = 8047
    · subst hp
      rw [if_pos (by decide)]
      exact ⟨A, rfl, fun _ _ => rfl, fun j => by rw [if_neg (by omega)]⟩
    · rw [if_neg (by rw [show (8047 : Int32) = nI 8047 from rfl, nn_le (by decide) (by omega)]; omega)]
      rw [show (8047 : Int32) * nI x + nI p = nI (8047 * x + p) by rw [show (8047 : Int32) = nI 8047 from rfl, pk_mul, nI_add]]
      rw [ck, if_pos (inB_n (by omega) (by decide)), ck, if_pos (inB_n (by omega) (by decide)), ix_n (by omega), ix_n (by omega)]
      show ∃ A2, lX8_back_33 n (nI x) (nI p + 1) I1 J1 (va_up A 1 (upd (A 1) p (A 2 (8047 * x + p)))) B1 = some A2 ∧ _
      rw [nI_1]
      obtain ⟨A2, q1, q2, q3⟩ := ih (p + 1) (va_up A 1 (upd (A 1) p (A 2 (8047 * x + p)))) (by omega) (by omega)
      refine ⟨A2, q1, fun a ha => by rw [q2 a ha, va_up_ne _ _ ha], fun j => ?_⟩
      rw [q3 j, va_up_ne _ _ (by decide), va_up_self]
      by_cases e : j = p
      · subst e
        rw [if_neg (by omega), if_pos (by omega), upd_s]
      · by_cases c : p ≤ j ∧ j < 8047
        · rw [if_pos (by omega), if_pos c]
        · rw [if_neg (by omega), if_neg c, upd_n _ _ e]
theorem rg_b {x : Int32} (h : inB x 2 = false) : rg x 0 1 = 0 := by
  refine Decidable.byContradiction (fun g => ?_)
  obtain ⟨u1, u2⟩ := rg_1 g
  obtain ⟨k, hk, rfl⟩ := nI_of2 (n := 1) (by decide) u1 u2
  rw [inB_n (by omega) (by decide)] at h
  cases h
theorem rg_c {x : Int32} (h : inB x 2 = true) : ∃ k, k < 2 ∧ x = nI k ∧ ¬ rg x 0 1 = 0 := by
  unfold inB at h
  obtain ⟨h1, h2⟩ := Bool.and_eq_true_iff.mp h
  have h1 := of_decide_eq_true h1
  have h2 := of_decide_eq_true h2
  obtain ⟨k, hk, rfl⟩ := nI_of (x := x) (by rw [i32_lt]; rw [i32_le] at h1; omega)
  rw [ix_n hk] at h2
  exact ⟨k, h2, rfl, (by decide +kernel : ∀ k, k < 2 → ¬ rg (nI k) 0 1 = 0) k h2⟩
/-- the answer kept, by itself -/
theorem rf_8 (hX : XE X) (h : RE X G I J A B T M I1 J1 A1 B1) (v : Int32) : ∃ (I3 : Nat → Int32) (A3 : Nat → Nat → Int32), ((sX8_refuses v I1 J1 A1 B1).bind fun (r, I) => some (r, I, A1)) = some (v, I3, A3) ∧ RE X G (upd I 9 v) J A B T M I3 J1 A3 B1 := ⟨_, _, rfl, RE_st hX v h⟩
theorem ps_image (hX : XE X) : PS_image (RE X G) := by
  intro x1 I J A B T M I1 J1 A1 B1 hr
  refine ⟨fun h => ?_, fun h => ⟨SR_ok hr.1, ?_⟩⟩
  · unfold sX8_image
    rw [rg_in, show (some (rg x1 0 1) : Option Int32) = some 0 by rw [rg_b h]]
    exact rf_8 hX hr (-1)
  · obtain ⟨k, hk, rfl, hg⟩ := rg_c h
    obtain ⟨A2, q1, q2, q3⟩ := im_8 (I1 := I1) (J1 := J1) (B1 := B1) hk FU 0 A1 (by unfold FU; omega) (by omega)
    have q1 : lX8_image_17 FU (nI k) 0 I1 J1 A1 B1 = some A2 := q1
    refine ⟨upd I1 0 0, va_up A2 3 (upd (A2 3) k 1), ?_, ?_⟩
    · unfold sX8_image
      rw [rg_in]
      show (if rg (nI k) 0 1 = 0 then _ else _) = _
      rw [if_neg hg, q1]
      show ck _ _ = _
      rw [ck, if_pos h, ix_n (by omega)]
      rfl
    · rw [ix_n (by omega)]
      have hr2 : RE X G I J A B T (va_up M k (some (bcI ((M k).getD img0).1 I, bcA ((M k).getD img0).2.1 A I, bcX ((M k).getD img0).2.2 T))) I1 J1 (va_up A2 3 (upd (A2 3) k 1)) B1 := by
        obtain ⟨h1, h2, h3, h4, h5, h6, h7, h8⟩ := hr
        have z : ∀ a, ¬ a = 2 → ¬ a = 3 → va_up A2 3 (upd (A2 3) k 1) a = A1 a := fun a k2 k3 => by rw [va_up_ne _ _ k3, q2 a k2]
        refine ⟨by rw [z 1 (by decide) (by decide)]; exact h1, fun m hm => ?_, ?_, ?_, ?_, h6, h7, ?_⟩
        · rw [va_up_ne _ _ (show ¬ 2 = 3 by decide), va_up_self]
          by_cases e : m = k
          · subst e
            refine Or.inr ⟨_, va_up_self _ _ _, upd_s _ _ _, ?_⟩
            have hw : ∀ n, n < 5 → ((M m).getD img0).1 (30 + 3 * n) = nI (tW n) := by
              intro n hn
              rcases h2 m hm with ⟨e1, -⟩ | ⟨i, e1, -, e3⟩
              · rw [e1]
                exact (by decide +kernel : ∀ n, n < 5 → SI0 (30 + 3 * n) = nI (tW n)) n hn
              · rw [e1]
                exact (e3.2.2.2.2.2.2.2.1 n hn).1
            have hs := SR_cp (A0 := ((M m).getD img0).2.1) (T0 := ((M m).getD img0).2.2) hw h1
            refine SR_ext hX (fun _ _ _ => rfl) (fun _ _ _ _ => rfl) (fun j hj => ?_) hs
            rw [q3, if_pos (by omega)]
            congr 1
            omega
          · rw [va_up_ne _ _ e, upd_n _ _ e, q2 3 (by decide)]
            rcases h2 m hm with h | ⟨i, e1, e2, e3⟩
            · exact Or.inl h
            · refine Or.inr ⟨i, e1, e2, SR_ext hX (fun _ _ _ => rfl) (fun _ _ _ _ => rfl) (fun j hj => ?_) e3⟩
              rw [q3, if_neg (by omega)]
        · rw [z 18 (by decide) (by decide)]; exact h3
        · rw [z 40 (by decide) (by decide)]; exact h4
        · rw [z 44 (by decide) (by decide)]; exact h5
        · rw [z 17 (by decide) (by decide)]; exact h8
      exact RE_st hX 0 hr2
theorem ps_back (hX : XE X) : PS_back (RE X G) := by
  intro x1 I J A B T M I1 J1 A1 B1 hr
  refine ⟨fun h => ?_, fun h hm => ?_, fun h i hm => ?_⟩
  · unfold sX8_back
    rw [rg_in, show (some (rg x1 0 1) : Option Int32) = some 0 by rw [rg_b h]]
    exact rf_8 hX hr (-1)
  · obtain ⟨k, hk, rfl, hg⟩ := rg_c h
    rw [ix_n (by omega)] at hm
    have e3 : A1 3 k = 0 := by
      rcases hr.2.1 k hk with ⟨-, e⟩ | ⟨i, e1, -⟩
      · exact e
      · rw [hm] at e1; cases e1
    unfold sX8_back
    rw [rg_in]
    show ∃ I3 A3, (if rg (nI k) 0 1 = 0 then _ else _) = _ ∧ _
    rw [if_neg hg, ck, if_pos h, ix_n (by omega), e3, if_pos rfl]
    exact rf_8 hX hr (-2)
  · obtain ⟨k, hk, rfl, hg⟩ := rg_c h
    rw [ix_n (by omega)] at hm
    obtain ⟨e3, hs⟩ : A1 3 k = 1 ∧ SR X G i.1 i.2.1 i.2.2 (fun j => A1 2 (8047 * k + j)) := by
      rcases hr.2.1 k hk with ⟨e, -⟩ | ⟨i', e1, e2, e3⟩
      · rw [hm] at e; cases e
      · rw [hm] at e1; cases e1; exact ⟨e2, e3⟩
    refine ⟨SR_ok hs, ?_⟩
    obtain ⟨A2, q1, q2, q3⟩ := bk_8 (I1 := I1) (J1 := J1) (B1 := B1) hk FU 0 A1 (by unfold FU; omega) (by omega)
    have q1 : lX8_back_33 FU (nI k) 0 I1 J1 A1 B1 = some A2 := q1
    refine ⟨upd I1 0 0, A2, ?_, ?_⟩
    · unfold sX8_back
      rw [rg_in]
      show (if rg (nI k) 0 1 = 0 then _ else _) = _
      rw [if_neg hg, ck, if_pos h, ix_n (by omega), e3, if_neg (by decide), q1]
      rfl
    · have hr2 : RE X G (mrgI (bcI I i.1) I) J (mrgA (bcA A i.2.1 i.1) A) B (bcX T i.2.2) M I1 J1 A2 B1 := by
        obtain ⟨h1, h2, h3, h4, h5, h6, h7, h8⟩ := hr
        have hw : ∀ n, n < 5 → I (30 + 3 * n) = nI (tW n) := fun n hn => (h1.2.2.2.2.2.2.2.1 n hn).1
        have hc := SR_cp (A0 := A) (T0 := T) hw hs
        have mI : ∀ k, ¬ (10 ≤ k ∧ k < 45) → mrgI (bcI I i.1) I k = I k := fun k h => if_neg h
        have mA : ∀ k, ¬ (10 ≤ k ∧ k < 45) → mrgA (bcA A i.2.1 i.1) A k = A k := fun k h => if_neg h
        refine ⟨SR_ext hX (fun k k1 k2 => if_pos ⟨k1, k2⟩) (fun k k1 k2 j => congrFun (show mrgA (bcA A i.2.1 i.1) A k = bcA A i.2.1 i.1 k from if_pos ⟨k1, k2⟩) j) (fun j hj => by rw [q3, if_pos (by omega)]) hc, fun m hm => ?_, ?_, ?_, ?_, ?_, ?_, ?_⟩
        · rw [q2 3 (by decide), q2 2 (by decide)]; exact h2 m hm
        · rw [mI 7 (by decide), mA 6 (by decide), q2 18 (by decide)]; exact h3
        · rw [mI 73 (by decide), mA 72 (by decide), q2 40 (by decide)]; exact h4
        · rw [mI 75 (by decide), mA 74 (by decide), q2 44 (by decide)]; exact h5
        · rw [mI 8 (by decide)]; exact h6
        · rw [mI 9 (by decide)]; exact h7
        · rw [q2 17 (by decide)]; exact h8
      exact RE_st hX 0 hr2
end P18
