/-- how many of the first m are in a set -/
def ct (S : Nat) : Nat → Nat
  | 0 => 0
  | m + 1 => ct S m + (if S.testBit m = true then 1 else 0)
theorem ct_or {S u : Nat} (h : S.testBit u = false) : ∀ m, ct (S ||| 2 ^ u) m = ct S m + (if u < m then 1 else 0) := by
  intro m
  induction m with
  | zero => rfl
  | succ m ih =>
    rw [ct, ct, ih, Nat.testBit_or, Nat.testBit_two_pow]
    by_cases z : u = m
    · subst z
      rw [decide_eq_true rfl, Bool.or_true, if_pos rfl, h, if_neg (Nat.lt_irrefl u), if_pos (Nat.lt_succ_self u), if_neg (show ¬ false = true by decide)]
    · rw [decide_eq_false z, Bool.or_false]
      by_cases y : u < m
      · rw [if_pos y, if_pos (show u < m + 1 by omega)]; omega
      · rw [if_neg y, if_neg (show ¬ u < m + 1 by omega)]; omega
theorem ct_all {n : Nat} : ∀ m, m ≤ n → ct (2 ^ n - 1) m = m := by
  intro m
  induction m with
  | zero => intro _; rfl
  | succ m ih =>
    intro h
    rw [ct, ih (by omega), Nat.testBit_two_pow_sub_one, decide_eq_true (by omega), if_pos rfl]
theorem bc_n : ∀ S, S < 512 → sJ6_bitCount_0f7a4 (nI S) = some (nI (ct S 9)) := by decide +kernel
theorem on_n {S : Nat} (hS : S < 512) : sX8_ones (nI S) = some (nI (ct S 9)) := by
  have hl : ∀ f p, 9 < p + f → p ≤ 9 → lX8_ones_4 f (nI S) (nI (ct S p)) (nI p) = some (nI (ct S 9)) := by
    intro f
    induction f with
    | zero => intro p h1 h2; omega
    | succ f ih =>
      intro p h1 h2
      rw [lX8_ones_4]
      by_cases hp : p = 9
      · subst hp
        rw [if_pos (by decide)]
      · rw [if_neg (by rw [show (9 : Int32) = nI 9 from rfl, nn_le (by decide) (by omega)]; omega), r1_v _ (show p < 32 by omega), bb_n _ (show p < 32 by omega)]
        dsimp only [gv]
        rw [nI_1]
        have := ih (p + 1) (by omega) (by omega)
        rw [ct] at this
        cases hb : S.testBit p with
        | true => rw [hb, if_pos rfl] at this; rw [if_pos rfl, nI_1]; exact this
        | false => rw [hb, if_neg (by decide)] at this; rw [if_neg (by decide), Int32.add_zero]; exact this
  have := hl FU 0 (by unfold FU; omega) (by omega)
  have : lX8_ones_4 FU (nI S) 0 0 = some (nI (ct S 9)) := this
  unfold sX8_ones
  rw [this]
  rfl
theorem dw_g : ∀ q, dw (q + 1) + (-1) = dw q := by
  intro q
  cases q with
  | zero => decide
  | succ q => exact pk_m1 q
/-- the least risk behind each set from q on -/
def PV (c : Nat → Int) (n q : Nat) (v : Nat → Int) : Prop := v (2 ^ n - 1) = 0 ∧ (∀ S, q ≤ S → S < 2 ^ n → 0 ≤ v S ∧ v S ≤ 1600000000 * (((2 ^ n - S : Nat)) : Int)) ∧ ∀ S, q ≤ S → S < 2 ^ n - 1 → ∃ u, u < n ∧ S.testBit u = false ∧ v S = c S + v (S ||| 2 ^ u) ∧ ∀ w, w < n → S.testBit w = false → v (S ||| 2 ^ u) ≤ v (S ||| 2 ^ w)
/-- the first of the least among the first p that are open -/
def FL (v : Nat → Int) (S p u : Nat) : Prop := u < p ∧ S.testBit u = false ∧ (∀ w, w < p → S.testBit w = false → v (S ||| 2 ^ u) ≤ v (S ||| 2 ^ w)) ∧ ∀ w, w < u → S.testBit w = false → v (S ||| 2 ^ u) < v (S ||| 2 ^ w)
section V4
variable {X : Txt → Int32 → (Nat → Int32) → (Nat → Int32) → Prop} {I I' I1 I1' : Nat → Int32} {J J' J1 J1' : Nat → Int64} {A A' A1 A1' : Nat → Nat → Int32} {B B' B1 B1' : Nat → Nat → Int64} {T : Nat → Option Txt} {M : Nat → Option Img} {K : Nat → Int32} {lg : Int} {k t n S : Nat} {v c : Nat → Int}
theorem cb_2 {wd : Nat → Nat} (hs : SR X GG I A T (A1 1)) (e73 : I 73 = nI n) (e41 : I1 41 = nI n) (hn : n ≤ 9) (hwd : ∀ i, i < n → A 72 i = nI (wd i) ∧ wd i < 48) (h40 : ∀ i, i < n → A1 40 i = nI (wd i)) : ∃ r : Int32, sX2_canBe I J A B = some r ∧ sX8_canMend I1 J1 A1 B1 = some r ∧ (r = 0 ∨ (r = 1 ∧ 0 < n ∧ ∀ i, i < n → ¬ A 11 (wd i) = 0)) := by
  have hl : ∀ f p, n < p + f → p ≤ n → (∀ i, i < p → ¬ A 11 (wd i) = 0) → ∃ o, lX2_canBe_2 f (nI p) I J A B = some o ∧ lX8_canMend_2 f (nI p) I1 J1 A1 B1 = some o ∧ (o = .inr () → ∀ i, i < n → ¬ A 11 (wd i) = 0) := by
    intro f
    induction f with
    | zero => intro p h1 h2; omega
    | succ f ih =>
      intro p h1 h2 hb
      rw [lX2_canBe_2, lX8_canMend_2, e73, e41]
      by_cases hp : p = n
      · subst hp
        rw [if_pos ((nn_le (by omega) (by omega)).mpr (Nat.le_refl _)), if_pos ((nn_le (by omega) (by omega)).mpr (Nat.le_refl _))]
        exact ⟨_, rfl, rfl, fun _ => hb⟩
      · obtain ⟨w1, w2⟩ := hwd p (by omega)
        have hle : ¬ nI n ≤ nI p := by rw [nn_le (by omega) (by omega)]; omega
        rw [if_neg hle, if_neg hle, ix_n (show p < 2 ^ 31 by omega), w1, h40 p (by omega), show (48 : Int32) + nI (wd p) = nI (48 + wd p) from nI_add 48 _, ix_n (show wd p < 2 ^ 31 by omega), ix_n (show 48 + wd p < 2 ^ 31 by omega), ← (hs.2.1 (wd p) w2).1]
        simp only [ck, if_pos (inB_n (show p < 9 by omega) (by decide)), if_pos (inB_n w2 (by decide)), if_pos (inB_n (show 48 + wd p < 8047 by omega) (by decide))]
        by_cases z : A 11 (wd p) = 0
        · rw [if_pos z, if_pos z]
          exact ⟨_, rfl, rfl, fun h => by cases h⟩
        · rw [if_neg z, if_neg z]
          dsimp only [gv]
          rw [nI_1]
          exact ih (p + 1) (by omega) (by omega) (fun i hi => by
            by_cases y : i = p
            · rw [y]; exact z
            · exact hb i (by omega))
  obtain ⟨o, q1, q2, q3⟩ := hl FU 0 (by unfold FU; omega) (by omega) (fun i hi => by omega)
  have q1 : lX2_canBe_2 FU 0 I J A B = some o := q1
  have q2 : lX8_canMend_2 FU 0 I1 J1 A1 B1 = some o := q2
  unfold sX2_canBe sX8_canMend
  rw [q1, q2]
  cases o with
  | inl u => exact ⟨0, rfl, rfl, Or.inl rfl⟩
  | inr u =>
    refine ⟨if nI n ≤ 0 then 0 else 1, ?_, ?_, ?_⟩
    · show some (if I 73 ≤ 0 then (0 : Int32) else 1) = _; rw [e73]
    · show some (if I1 41 ≤ 0 then (0 : Int32) else 1) = _; rw [e41]
    · by_cases z : nI n ≤ 0
      · rw [if_pos z]; exact Or.inl rfl
      · rw [if_neg z]
        rw [show (0 : Int32) = nI 0 from rfl, nn_le (by omega) (by decide)] at z
        exact Or.inr ⟨rfl, by omega, q3 rfl⟩
theorem nw_7 (e73 : I 73 = nI n) (hn : n ≤ 9) (hS : S < 2 ^ n) (hop : ∃ w, w < n ∧ S.testBit w = false) (hB : ∀ w, w < n → S.testBit w = false → B 76 (S ||| 2 ^ w) = lI (v (S ||| 2 ^ w)) ∧ (v (S ||| 2 ^ w)).natAbs < 9223372036854775808) : ∃ u, sX2_nextWish (nI S) I J A B = some (nI u) ∧ FL v S n u := by
  have h512 := (sh_n n hn).2
  have hl : ∀ (f p : Nat) (x : Int32), n < p + f → p ≤ n → ((x = -1 ∧ ∀ w, w < p → S.testBit w = true) ∨ ∃ u, x = nI u ∧ FL v S p u) → ∃ x', lX2_nextWish_4 f (nI S) x (nI p) I J A B = some x' ∧ ((x' = -1 ∧ ∀ w, w < n → S.testBit w = true) ∨ ∃ u, x' = nI u ∧ FL v S n u) := by
    intro f
    induction f with
    | zero => intro p x h1 h2; omega
    | succ f ih =>
      intro p x h1 h2 hx
      rw [lX2_nextWish_4, e73]
      by_cases hp : p = n
      · subst hp
        rw [if_pos ((nn_le (by omega) (by omega)).mpr (Nat.le_refl _))]
        exact ⟨x, rfl, hx⟩
      · rw [if_neg (by rw [nn_le (by omega) (by omega)]; omega)]
        dsimp only [gv]
        rw [nI_1]
        have cb : (ushr (nI S) (nI p) &&& 1 = 0) ↔ S.testBit p = false := by rw [u1_i _ (by omega), bb_n _ (by omega)]
        cases hb : S.testBit p with
        | true =>
          rw [if_neg (show ¬ (ushr (nI S) (nI p) &&& 1 = 0) from fun q => by rw [cb.mp q] at hb; cases hb), if_pos rfl]
          refine ih (p + 1) x (by omega) (by omega) ?_
          rcases hx with ⟨x1, x2⟩ | ⟨u, x1, x2, x3, x4, x5⟩
          · refine Or.inl ⟨x1, fun w hw => ?_⟩
            by_cases z : w = p
            · rw [z]; exact hb
            · exact x2 w (by omega)
          · refine Or.inr ⟨u, x1, by omega, x3, fun w hw ho => ?_, x5⟩
            by_cases z : w = p
            · rw [z, hb] at ho; cases ho
            · exact x4 w (by omega) ho
        | false =>
          rw [if_pos (cb.mpr hb), if_neg (show ¬ (1 : Int32) = 0 by decide)]
          obtain ⟨b1, b2⟩ := hB p (by omega) hb
          rcases hx with ⟨x1, x2⟩ | ⟨u, x1, x2, x3, x4, x5⟩
          · rw [if_pos x1]
            refine ih (p + 1) _ (by omega) (by omega) (Or.inr ⟨p, rfl, by omega, hb, fun w hw ho => ?_, fun w hw ho => ?_⟩)
            · by_cases z : w = p
              · rw [z]; exact Int.le_refl _
              · rw [x2 w (by omega)] at ho; cases ho
            · rw [x2 w hw] at ho; cases ho
          · obtain ⟨d1, d2⟩ := hB u (by omega) x3
            rw [x1, if_neg (nI_m1 (by omega)), or_n (show p < 32 by omega), or_n (show u < 32 by omega)]
            have l1 := or_lt (w := p) hS (show p < n by omega)
            have l2 := or_lt (w := u) hS (show u < n by omega)
            rw [ck, if_pos (inB_n (by omega) (by decide)), ck, if_pos (inB_n (by omega) (by decide)), ix_n (by omega), ix_n (by omega), b1, d1]
            by_cases hc : v (S ||| 2 ^ u) ≤ v (S ||| 2 ^ p)
            · rw [if_pos (by rw [lg_cmp_ge, l_le d2 b2]; exact hc)]
              refine ih (p + 1) _ (by omega) (by omega) (Or.inr ⟨u, rfl, by omega, x3, fun w hw ho => ?_, x5⟩)
              by_cases z : w = p
              · rw [z]; exact hc
              · exact x4 w (by omega) ho
            · rw [if_neg (by rw [lg_cmp_ge, l_le d2 b2]; exact hc)]
              refine ih (p + 1) _ (by omega) (by omega) (Or.inr ⟨p, rfl, by omega, hb, fun w hw ho => ?_, fun w hw ho => ?_⟩)
              · by_cases z : w = p
                · rw [z]; exact Int.le_refl _
                · have := x4 w (by omega) ho; omega
              · have := x4 w hw ho; omega
  obtain ⟨x', q1, q2⟩ := hl FU 0 (-1) (by unfold FU; omega) (by omega) (Or.inl ⟨rfl, fun w hw => by omega⟩)
  have q1 : lX2_nextWish_4 FU (nI S) (-1) 0 I J A B = some x' := q1
  rcases q2 with ⟨-, q2⟩ | ⟨u, rfl, q2⟩
  · obtain ⟨w, w1, w2⟩ := hop
    rw [q2 w w1] at w2
    cases w2
  · refine ⟨u, ?_, q2⟩
    unfold sX2_nextWish
    rw [q1]
    show some (if nI u < 0 then (0 : Int32) else nI u) = _
    have := q2.1
    rw [if_neg (nI_n0 (by omega))]
theorem ls_9 (e41 : I1 41 = nI n) (hn : n ≤ 9) (hS : S < 2 ^ n) (hB : ∀ w, w < n → S.testBit w = false → B1 43 (S ||| 2 ^ w) = lI (v (S ||| 2 ^ w)) ∧ 0 ≤ v (S ||| 2 ^ w) ∧ (v (S ||| 2 ^ w)).natAbs < 9223372036854775808) {u : Nat} (hu : FL v S n u) : lX8_best_46 FU (nI S) (-1) 0 I1 J1 A1 B1 = some (lI (v (S ||| 2 ^ u))) := by
  have h512 := (sh_n n hn).2
  have hl : ∀ (f p : Nat) (x : Int64), n < p + f → p ≤ n → ((x = -1 ∧ ∀ w, w < p → S.testBit w = true) ∨ ∃ w0, w0 < n ∧ S.testBit w0 = false ∧ x = lI (v (S ||| 2 ^ w0)) ∧ ∀ w, w < p → S.testBit w = false → v (S ||| 2 ^ w0) ≤ v (S ||| 2 ^ w)) → lX8_best_46 f (nI S) x (nI p) I1 J1 A1 B1 = some (lI (v (S ||| 2 ^ u))) := by
    intro f
    induction f with
    | zero => intro p x h1 h2; omega
    | succ f ih =>
      intro p x h1 h2 hx
      rw [lX8_best_46, e41]
      by_cases hp : p = n
      · subst hp
        rw [if_pos ((nn_le (by omega) (by omega)).mpr (Nat.le_refl _))]
        rcases hx with ⟨-, x2⟩ | ⟨w0, w1, w2, x1, x2⟩
        · have := hu.2.1
          rw [x2 u hu.1] at this
          cases this
        · rw [x1]
          have a := x2 u hu.1 hu.2.1
          have b := hu.2.2.1 w0 w1 w2
          rw [show v (S ||| 2 ^ w0) = v (S ||| 2 ^ u) by omega]
      · rw [if_neg (by rw [nn_le (by omega) (by omega)]; omega), r1_v _ (show p < 32 by omega), bb_n _ (show p < 32 by omega)]
        dsimp only [gv]
        rw [nI_1]
        cases hb : S.testBit p with
        | true =>
          rw [if_pos (show (if true = true then (1 : Int32) else 0) = 1 from rfl)]
          refine ih (p + 1) x (by omega) (by omega) ?_
          rcases hx with ⟨x1, x2⟩ | ⟨w0, w1, w2, x1, x2⟩
          · refine Or.inl ⟨x1, fun w hw => ?_⟩
            by_cases z : w = p
            · rw [z]; exact hb
            · exact x2 w (by omega)
          · refine Or.inr ⟨w0, w1, w2, x1, fun w hw ho => ?_⟩
            by_cases z : w = p
            · rw [z, hb] at ho; cases ho
            · exact x2 w (by omega) ho
        | false =>
          obtain ⟨b1, b0, b2⟩ := hB p (by omega) hb
          have l1 := or_lt (w := p) hS (show p < n by omega)
          rw [if_neg (show ¬ (if false = true then (1 : Int32) else 0) = 1 by decide), or_n (show p < 32 by omega), ck, if_pos (inB_n (by omega) (by decide)), ix_n (by omega), b1]
          rcases hx with ⟨x1, x2⟩ | ⟨w0, w1, w2, x1, x2⟩
          · rw [if_pos (by rw [x1]; decide +kernel)]
            refine ih (p + 1) _ (by omega) (by omega) (Or.inr ⟨p, by omega, hb, rfl, fun w hw ho => ?_⟩)
            by_cases z : w = p
            · rw [z]; exact Int.le_refl _
            · rw [x2 w (by omega)] at ho; cases ho
          · obtain ⟨d1, d0, d2⟩ := hB w0 w1 w2
            rw [x1, if_neg (by rw [lg_cmp_lt, l_z, l_lt d2 (by decide)]; omega)]
            by_cases hc : v (S ||| 2 ^ w0) ≤ v (S ||| 2 ^ p)
            · rw [if_pos (by rw [lg_cmp_ge, l_le d2 b2]; exact hc)]
              refine ih (p + 1) _ (by omega) (by omega) (Or.inr ⟨w0, w1, w2, rfl, fun w hw ho => ?_⟩)
              by_cases z : w = p
              · rw [z]; exact hc
              · exact x2 w (by omega) ho
            · rw [if_neg (by rw [lg_cmp_ge, l_le d2 b2]; exact hc)]
              refine ih (p + 1) _ (by omega) (by omega) (Or.inr ⟨p, by omega, hb, rfl, fun w hw ho => ?_⟩)
              by_cases z : w = p
              · rw [z]; exact Int.le_refl _
              · have := x2 w (by omega) ho; omega
  exact hl FU 0 (-1) (by unfold FU; omega) (by omega) (Or.inl ⟨rfl, fun w hw => by omega⟩)
theorem dp_2 (e73 : I 73 = nI n) (e41 : I1 41 = nI n) (hn : n ≤ 9) (hc : ∀ S, S < 2 ^ n → (A 79 S).toInt = c S ∧ 0 ≤ c S ∧ c S ≤ 1600000000) : ∀ (q f : Nat) (B B1 : Nat → Nat → Int64) (v : Nat → Int), q < f → q ≤ 2 ^ n - 1 → PV c n q v → (∀ S, q ≤ S → S < 2 ^ n → B 76 S = lI (v S) ∧ B1 43 S = lI (v S)) → (∀ S, S < 2 ^ n → B1 42 S = lI (c S)) → RB (lX2_weighRows_18 f (dw q) I J A B) (lX8_best_35 f (dw q) I1 J1 A1 B1) (fun a b => ∃ v, PV c n 0 v ∧ (∀ S, S < 2 ^ n → a 76 S = lI (v S) ∧ b 43 S = lI (v S)) ∧ ∀ S, S < 2 ^ n → b 42 S = lI (c S)) := by
  have h512 := (sh_n n hn).2
  have hpos : 1 ≤ 2 ^ n := Nat.one_le_two_pow
  intro q
  induction q with
  | zero =>
    intro f B B1 v hf _ hv hB h42
    obtain ⟨m, rfl⟩ : ∃ m, f = m + 1 := ⟨f - 1, by omega⟩
    rw [lX2_weighRows_18, lX8_best_35]
    exact rl_t (by decide) (rr_t (by decide) (rb_some ⟨v, hv, fun S hS => hB S (Nat.zero_le _) hS, h42⟩))
  | succ q ih =>
    intro f B B1 v hf hq hv hB h42
    obtain ⟨m, rfl⟩ : ∃ m, f = m + 1 := ⟨f - 1, by omega⟩
    rw [lX2_weighRows_18, lX8_best_35, dw_g q, show dw (q + 1) = nI q from rfl]
    have hqn : q < 2 ^ n := by omega
    refine rl_f (nI_n0 (by omega)) (rr_f (nI_n0 (by omega)) ?_)
    refine rl_ck (inB_n (by omega) (by decide)) ?_
    obtain ⟨v0, v1, v2⟩ := hv
    have hval : ∀ w, w < n → q.testBit w = false → (B 76 (q ||| 2 ^ w) = lI (v (q ||| 2 ^ w)) ∧ B1 43 (q ||| 2 ^ w) = lI (v (q ||| 2 ^ w))) ∧ 0 ≤ v (q ||| 2 ^ w) ∧ (v (q ||| 2 ^ w)).natAbs < 9223372036854775808 := fun w hw ho => by
      have g1 := or_gt ho
      have g2 := or_lt hqn hw
      have g3 := v1 (q ||| 2 ^ w) (by omega) g2
      refine ⟨hB _ (by omega) g2, g3.1, ?_⟩
      have : ((2 ^ n - (q ||| 2 ^ w) : Nat) : Int) ≤ 512 := by omega
      omega
    obtain ⟨u, n1, n2⟩ := nw_7 (I := I) (J := J) (A := A) (v := v) e73 hn hqn (op_w hqn (by omega)) (fun w hw ho => ⟨(hval w hw ho).1.1, (hval w hw ho).2.2⟩)
    have n3 := ls_9 (I1 := I1) (J1 := J1) (A1 := A1) (v := v) e41 hn hqn (fun w hw ho => ⟨(hval w hw ho).1.2, (hval w hw ho).2⟩) n2
    have hu := n2.1
    have g1 := or_gt n2.2.1
    have g2 := or_lt hqn hu
    refine rl_bind n1 (rr_bind n3 ?_)
    rw [or_n (show u < 32 by omega), ix_n (show q < 2 ^ 31 by omega), ix_n (show q ||| 2 ^ u < 2 ^ 31 by omega)]
    refine rl_ck (inB_n (by omega) (by decide)) (rl_ck (inB_n (by omega) (by decide)) (rl_gv (rl_gv ?_)))
    refine rr_ck (inB_n (by omega) (by decide)) (rr_ck (inB_n (by omega) (by decide)) (rr_gv (rr_gv ?_)))
    obtain ⟨c1, c2, c3⟩ := hc q hqn
    rw [(hval u hu n2.2.1).1.1, l_32 c1, h42 q hqn, ← l_add]
    -- the value of this set
    have w1 : ∀ S, ¬ S = q → (fun S => if S = q then c q + v (q ||| 2 ^ u) else v S) S = v S := fun S hS => if_neg hS
    have w2 : (fun S => if S = q then c q + v (q ||| 2 ^ u) else v S) q = c q + v (q ||| 2 ^ u) := if_pos rfl
    generalize (fun S => if S = q then c q + v (q ||| 2 ^ u) else v S) = v' at w1 w2
    refine ih m _ _ v' (by omega) (by omega) ⟨by rw [w1 _ (by omega)]; exact v0, fun S s1 s2 => ?_, fun S s1 s2 => ?_⟩ (fun S s1 s2 => ?_) (fun S hS => by rw [va_up_ne _ _ (by decide)]; exact h42 S hS)
    · by_cases z : S = q
      · subst z
        rw [w2]
        have g3 := v1 (S ||| 2 ^ u) (by omega) g2
        have : ((2 ^ n - (S ||| 2 ^ u) : Nat) : Int) + 1 ≤ ((2 ^ n - S : Nat) : Int) := by omega
        omega
      · rw [w1 S z]; exact v1 S (by omega) s2
    · by_cases z : S = q
      · subst z
        refine ⟨u, hu, n2.2.1, ?_, fun w hw ho => ?_⟩
        · rw [w2, w1 _ (by omega)]
        · have := or_gt ho
          rw [w1 _ (by omega), w1 _ (by omega)]
          exact n2.2.2.1 w hw ho
      · obtain ⟨u', a1, a2, a3, a4⟩ := v2 S (by omega) s2
        have := or_gt a2
        refine ⟨u', a1, a2, ?_, fun w hw ho => ?_⟩
        · rw [w1 S z, w1 _ (by omega)]; exact a3
        · have := or_gt ho
          rw [w1 _ (by omega), w1 _ (by omega)]; exact a4 w hw ho
    · rw [va_up_self, va_up_self]
      by_cases z : S = q
      · subst z; rw [ul_s, ul_s, w2]; exact ⟨rfl, rfl⟩
      · rw [ul_n z, ul_n z, w1 S z]; exact hB S (by omega) s2
end V4
