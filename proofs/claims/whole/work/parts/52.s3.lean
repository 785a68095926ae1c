/-! numbers of the machine as whole numbers -/
def lI (v : Int) : Int64 := Int64.ofInt v
theorem l_mul (a b : Int) : lI (a * b) = lI a * lI b := Int64.ofInt_mul a b
theorem l_add (a b : Int) : lI (a + b) = lI a + lI b := Int64.ofInt_add a b
theorem l_sub (a b : Int) : lI (a - b) = lI a - lI b := Int64.ofInt_sub a b
theorem l_neg (a : Int) : lI (-a) = -lI a := Int64.ofInt_neg a
theorem l_ti {v : Int} (h : v.natAbs < 9223372036854775808) : (lI v).toInt = v := Int64.toInt_ofInt_of_le (by omega) (by omega)
theorem l_32 {x : Int32} {v : Int} (h : x.toInt = v) : x.toInt64 = lI v := by rw [← h]; exact (Int64.ofInt_int32ToInt x).symm
theorem l_eq {v w : Int} (h : v.natAbs < 9223372036854775808) (h2 : w.natAbs < 9223372036854775808) : lI v = lI w ↔ v = w := by rw [← Int64.toInt_inj, l_ti h, l_ti h2]
theorem l_le {v w : Int} (h : v.natAbs < 9223372036854775808) (h2 : w.natAbs < 9223372036854775808) : lI v ≤ lI w ↔ v ≤ w := by rw [Int64.le_iff_toInt_le, l_ti h, l_ti h2]
theorem l_lt {v w : Int} (h : v.natAbs < 9223372036854775808) (h2 : w.natAbs < 9223372036854775808) : lI v < lI w ↔ v < w := by rw [Int64.lt_iff_toInt_lt, l_ti h, l_ti h2]
theorem l_z : (0 : Int64) = lI 0 := by decide +kernel
theorem l_c0 {v : Int} (h : v.natAbs < 9223372036854775808) : lg_cmp (lI v) 0 = 0 ↔ v = 0 := by rw [lg_cmp_eq, l_z, l_eq h (by decide)]
theorem l_cle {v w : Int} (h : v.natAbs < 9223372036854775808) (h2 : w.natAbs < 9223372036854775808) : lg_cmp (lI v) (lI w) ≤ 0 ↔ v ≤ w := by rw [lg_cmp_le, l_le h h2]
theorem l_td {v w : Int} (h : v.natAbs < 9223372036854775808) (h2 : w.natAbs < 9223372036854775808) (hw : ¬ w = -1) : lI v / lI w = lI (v.tdiv w) := by
  refine Int64.toInt_inj.mp ?_
  have hne : lI w ≠ -1 := by
    rw [show (-1 : Int64) = lI (-1) by decide +kernel]
    exact fun q => hw ((l_eq h2 (by decide)).mp q)
  rw [Int64.toInt_div_of_ne_right _ _ hne, l_ti h, l_ti h2, l_ti]
  rw [Int.natAbs_tdiv]
  exact Nat.lt_of_le_of_lt (Nat.div_le_self _ _) h
theorem l_nz {w : Int} (h2 : w.natAbs < 9223372036854775808) (hw : ¬ w = 0) : nzL (lI w) = true := decide_eq_true (fun q => hw ((l_eq h2 (by decide)).mp (q.trans l_z)))
theorem bm_64 {v : Int} (h : v.natAbs < 2147483648) : v.bmod (2 ^ 32) = v := Int.bmod_eq_of_le (by omega) (by omega)
theorem i_add {x y : Int32} {v w : Int} (hx : x.toInt = v) (hy : y.toInt = w) (h : (v + w).natAbs < 2147483648) : (x + y).toInt = v + w := by rw [Int32.toInt_add, hx, hy, bm_64 h]
theorem i_sub {x y : Int32} {v w : Int} (hx : x.toInt = v) (hy : y.toInt = w) (h : (v - w).natAbs < 2147483648) : (x - y).toInt = v - w := by rw [Int32.toInt_sub, hx, hy, bm_64 h]
theorem i_mul {x y : Int32} {v w : Int} (hx : x.toInt = v) (hy : y.toInt = w) (h : (v * w).natAbs < 2147483648) : (x * y).toInt = v * w := by rw [Int32.toInt_mul, hx, hy, bm_64 h]
theorem i_0 {x : Int32} : x = 0 ↔ x.toInt = 0 := by rw [← Int32.toInt_inj]; rfl
/-! bits -/
theorem bb_1 : ∀ i, i < 32 → bb 1 i = decide (i = 0) := by decide +kernel
theorem b1_0 (y : Int32) : y &&& 1 = 0 ↔ bb y 0 = false := by
  constructor
  · intro h
    have := bb_and y 1 0
    rw [h, bb_0, bb_1 0 (by decide)] at this
    simpa using this.symm
  · intro h
    refine bb_ext (fun i hi => ?_)
    rw [bb_and, bb_1 i hi, bb_0]
    by_cases e : i = 0
    · subst e; rw [h]; rfl
    · rw [decide_eq_false e, Bool.and_false]
theorem u1_i (x : Int32) {i : Nat} (hi : i < 32) : ushr x (nI i) &&& 1 = 0 ↔ bb x i = false := by
  rw [b1_0]
  have := bb_ushr i hi x 0
  rw [Nat.add_zero] at this
  rw [this]
theorem s1_i {i k : Nat} (hi : i < 32) (hk : k < 32) : bb ((1 : Int32) <<< (nI i &&& 31)) k = decide (k = i) := by
  rw [bb_shl i hi 1 hk]
  by_cases h : i ≤ k
  · rw [decide_eq_true h, bb_1 _ (by omega), Bool.true_and]
    exact decide_eq_decide.mpr (by omega)
  · rw [decide_eq_false h, Bool.false_and, decide_eq_false (by omega)]
section S3
variable {e : Nat → Nat → Int} {g : Nat → Bool} {t : Nat} {I : Nat → Int32} {J : Nat → Int64} {A : Nat → Nat → Int32} {B : Nat → Nat → Int64} {gm : Int32}
theorem as_7 (he : EB e) (ht : t < 6) (hm : ∀ i, i < 8 → bb gm i = g (8 * t + i)) : ∀ (n f : Nat) (A : Nat → Nat → Int32), 4 < f + n → f ≤ 4 → (∀ j, j < 48 → (A 10 j).toInt = e 0 j) → ∃ A2, lX1_addStiffs_2 n (nI t) gm (nI f) I J A B = some A2 ∧ (∀ a, ¬ a = 64 → A2 a = A a) ∧ (∀ q, q < f → A2 64 q = A 64 q) ∧ ∀ q, f ≤ q → q < 4 → (A2 64 q).toInt = kF e g t q := by
  intro n
  induction n with
  | zero => intro f A h1 h2; omega
  | succ n ih =>
    intro f A h1 h2 h10
    rw [lX1_addStiffs_2]
    by_cases hf : f = 4
    · subst hf
      rw [if_pos (by decide)]
      exact ⟨A, rfl, fun _ _ => rfl, fun _ _ => rfl, fun q h3 h4 => by omega⟩
    · rw [if_neg (by rw [show (4 : Int32) = nI 4 from rfl, nn_le (by decide) (by omega)]; omega)]
      have e2 : (2 : Int32) * nI f = nI (2 * f) := by rw [show (2 : Int32) = nI 2 from rfl, pk_mul]
      have e3 : nI (2 * f) + (1 : Int32) = nI (2 * f + 1) := nI_1 _
      have e4 : nI t * (8 : Int32) + nI (2 * f) = nI (8 * t + 2 * f) := by rw [show (8 : Int32) = nI 8 from rfl, pk_mul, nI_add, Nat.mul_comm]
      have e5 : nI (8 * t + 2 * f) + (1 : Int32) = nI (8 * t + 2 * f + 1) := nI_1 _
      rw [e2, e3, e4]
      dsimp only [gv]
      rw [e5, ix_n (show 8 * t + 2 * f < 2 ^ 31 by omega), ix_n (show 8 * t + 2 * f + 1 < 2 ^ 31 by omega), ix_n (show f < 2 ^ 31 by omega), nI_1]
      have tail : ∀ v : Int32, v.toInt = kF e g t f → ∃ A2, (ck (inB (nI f) 4) (lX1_addStiffs_2 n (nI t) gm (nI (f + 1)) I J (va_up A 64 (upd (A 64) f v)) B)) = some A2 ∧ (∀ a, ¬ a = 64 → A2 a = A a) ∧ (∀ q, q < f → A2 64 q = A 64 q) ∧ ∀ q, f ≤ q → q < 4 → (A2 64 q).toInt = kF e g t q := by
        intro v hv
        rw [ck, if_pos (inB_n (by omega) (by decide))]
        obtain ⟨A2, q1, q2, q3, q4⟩ := ih (f + 1) (va_up A 64 (upd (A 64) f v)) (by omega) (by omega) (fun j hj => by rw [va_up_ne _ _ (by decide)]; exact h10 j hj)
        refine ⟨A2, q1, fun a ha => by rw [q2 a ha, va_up_ne _ _ ha], fun q hq => by rw [q3 q (by omega), va_up_self, upd_n _ _ (by omega)], fun q h3 h4 => ?_⟩
        by_cases eq : q = f
        · subst eq; rw [q3 q (by omega), va_up_self, upd_s]; exact hv
        · exact q4 q (by omega) h4
      have s1 := h10 (8 * t + 2 * f) (by omega)
      have s2 := h10 (8 * t + 2 * f + 1) (by omega)
      have r1 := he.1 (8 * t + 2 * f) (by omega)
      have r2 := he.1 (8 * t + 2 * f + 1) (by omega)
      have c1 : (ushr gm (nI (2 * f)) &&& 1 = 0) ↔ g (8 * t + 2 * f) = false := by rw [u1_i _ (by omega), hm _ (by omega)]
      have c2 : (ushr gm (nI (2 * f + 1)) &&& 1 = 0) ↔ g (8 * t + 2 * f + 1) = false := by rw [u1_i _ (by omega), hm _ (by omega)]; rfl
      cases b1 : g (8 * t + 2 * f) with
      | false =>
        rw [if_pos (c1.mpr b1), ck, if_pos (inB_n (by omega) (by decide))]
        cases b2 : g (8 * t + 2 * f + 1) with
        | false =>
          rw [if_pos (c2.mpr b2), ck, if_pos (inB_n (by omega) (by decide))]
          refine tail _ ?_
          unfold kF
          rw [b1, b2, if_neg (by decide), if_neg (by decide), i_add s1 s2 (by omega)]
        | true =>
          rw [if_neg (fun q => by rw [c2.mp q] at b2; cases b2)]
          refine tail _ ?_
          unfold kF
          rw [b1, b2, if_neg (by decide), if_pos rfl, i_add s1 (show (0 : Int32).toInt = 0 from rfl) (by omega)]
      | true =>
        rw [if_neg (fun q => by rw [c1.mp q] at b1; cases b1)]
        cases b2 : g (8 * t + 2 * f + 1) with
        | false =>
          rw [if_pos (c2.mpr b2), ck, if_pos (inB_n (by omega) (by decide))]
          refine tail _ ?_
          unfold kF
          rw [b1, b2, if_pos rfl, if_neg (by decide), i_add (show (0 : Int32).toInt = 0 from rfl) s2 (by omega)]
        | true =>
          rw [if_neg (fun q => by rw [c2.mp q] at b2; cases b2)]
          refine tail _ ?_
          unfold kF
          rw [b1, b2, if_pos rfl]
          rfl
theorem hc_7 {k s u : Nat → Int} {W : Int} (hk : ∀ q, q < 4 → (A 64 q).toInt = k q) (hu : ∀ q, q < 4 → (u q).natAbs < 9223372036854775808) : ∀ (n f : Nat) (B : Nat → Nat → Int64), 4 < f + n → f ≤ 4 → (∀ q, f ≤ q → q < 4 → B 65 q = lI (s q) ∧ B 66 q = lI (u q)) →
    ((∃ q, f ≤ q ∧ q < 4 ∧ k q = 0 ∧ ¬ u q = 0) ∧ ∃ B2, lX1_hasCommonDivisors_2 n (lI W) (nI f) I J A B = some (.inl B2) ∧ ∀ b, ¬ b = 65 → ¬ b = 66 → ¬ b = 67 → B2 b = B b) ∨
    ((∀ q, f ≤ q → q < 4 → (¬ k q = 0 ∨ u q = 0)) ∧ ∃ B2, lX1_hasCommonDivisors_2 n (lI W) (nI f) I J A B = some (.inr B2) ∧ (∀ b, ¬ b = 65 → ¬ b = 66 → ¬ b = 67 → B2 b = B b) ∧ (∀ q, q < f → B2 65 q = B 65 q ∧ B2 66 q = B 66 q ∧ B2 67 q = B 67 q) ∧ ∀ q, f ≤ q → q < 4 → B2 65 q = lI (s q * (1000 * k q)) ∧ B2 66 q = lI (u q * W) ∧ B2 67 q = lI (1000 * k q * W)) := by
  intro n
  induction n with
  | zero => intro f B h1 h2; omega
  | succ n ih =>
    intro f B h1 h2 hB
    rw [lX1_hasCommonDivisors_2]
    by_cases hf : f = 4
    · subst hf
      rw [if_pos (by decide)]
      exact Or.inr ⟨fun q h3 h4 => by omega, B, rfl, fun _ _ _ _ => rfl, fun _ _ => ⟨rfl, rfl, rfl⟩, fun q h3 h4 => by omega⟩
    · rw [if_neg (by rw [show (4 : Int32) = nI 4 from rfl, nn_le (by decide) (by omega)]; omega)]
      obtain ⟨b1, b2⟩ := hB f (by omega) (by omega)
      have hkf := hk f (by omega)
      dsimp only [gv]
      rw [nI_1, ck, if_pos (inB_n (by omega) (by decide)), ix_n (show f < 2 ^ 31 by omega)]
      simp only [ck, if_pos (inB_n (show f < 4 by omega) (by decide))]
      rw [b1, b2, l_32 hkf]
      have v1 : lI (s f) * (1000 * lI (k f)) = lI (s f * (1000 * k f)) := by rw [l_mul, l_mul]; rfl
      have v2 : lI (u f) * lI W = lI (u f * W) := by rw [l_mul]
      have v3 : 1000 * lI (k f) * lI W = lI (1000 * k f * W) := by rw [l_mul, l_mul]; rfl
      by_cases hz : A 64 f = 0 ∧ ¬ lg_cmp (lI (u f)) 0 = 0
      · rw [if_pos hz.1, if_neg hz.2]
        refine Or.inl ⟨⟨f, by omega, by omega, by rw [← hkf]; exact i_0.mp hz.1, fun q => hz.2 ((l_c0 (hu f (by omega))).mpr q)⟩, B, rfl, fun _ _ _ _ => rfl⟩
      · have hok : ¬ k f = 0 ∨ u f = 0 := by
          by_cases c : k f = 0
          · refine Or.inr ?_
            have c2 : A 64 f = 0 := i_0.mpr (hkf.trans c)
            have c3 : lg_cmp (lI (u f)) 0 = 0 := Decidable.byContradiction (fun q => hz ⟨c2, q⟩)
            exact (l_c0 (hu f (by omega))).mp c3
          · exact Or.inl c
        have red : ∀ (x y : Option ((Nat → Nat → Int64) ⊕ (Nat → Nat → Int64))), (if A 64 f = 0 then (if lg_cmp (lI (u f)) 0 = 0 then x else y) else x) = x := by
          intro x y
          by_cases c : A 64 f = 0
          · rw [if_pos c, if_pos (Decidable.byContradiction (fun q => hz ⟨c, q⟩))]
          · rw [if_neg c]
        rw [red, va_up_ne _ _ (show ¬ 66 = 65 by decide), b2, v1, v2, v3]
        rcases ih (f + 1) (va_up (va_up (va_up B 65 (vp_updL (B 65) f (lI (s f * (1000 * k f))))) 66 (vp_updL (va_up B 65 (vp_updL (B 65) f (lI (s f * (1000 * k f)))) 66) f (lI (u f * W)))) 67 (vp_updL (va_up (va_up B 65 (vp_updL (B 65) f (lI (s f * (1000 * k f))))) 66 (vp_updL (va_up B 65 (vp_updL (B 65) f (lI (s f * (1000 * k f)))) 66) f (lI (u f * W))) 67) f (lI (1000 * k f * W)))) (by omega) (by omega) (fun q h3 h4 => by
            obtain ⟨a1, a2⟩ := hB q (by omega) h4
            constructor
            · show vp_updL (B 65) f _ q = _
              rw [vp_updL, if_neg (by omega)]; exact a1
            · show vp_updL (B 66) f _ q = _
              rw [vp_updL, if_neg (by omega)]; exact a2) with ⟨⟨q, q1, q2, q3, q4⟩, B2, q5, q6⟩ | ⟨q1, B2, q2, q3, q4, q5⟩
        · refine Or.inl ⟨⟨q, by omega, q2, q3, q4⟩, B2, q5, fun b c1 c2 c3 => ?_⟩
          rw [q6 b c1 c2 c3, va_up_ne _ _ c3, va_up_ne _ _ c2, va_up_ne _ _ c1]
        · refine Or.inr ⟨fun q h3 h4 => ?_, B2, q2, fun b c1 c2 c3 => ?_, fun q hq => ?_, fun q h3 h4 => ?_⟩
          · by_cases eq : q = f
            · subst eq; exact hok
            · exact q1 q (by omega) h4
          · rw [q3 b c1 c2 c3, va_up_ne _ _ c3, va_up_ne _ _ c2, va_up_ne _ _ c1]
          · obtain ⟨a1, a2, a3⟩ := q4 q (by omega)
            refine ⟨a1.trans ?_, a2.trans ?_, a3.trans ?_⟩
            · show vp_updL (B 65) f _ q = _
              rw [vp_updL, if_neg (by omega)]
            · show vp_updL (B 66) f _ q = _
              rw [vp_updL, if_neg (by omega)]
            · show vp_updL (B 67) f _ q = _
              rw [vp_updL, if_neg (by omega)]
          · by_cases eq : q = f
            · subst eq
              obtain ⟨a1, a2, a3⟩ := q4 q (by omega)
              refine ⟨a1.trans ?_, a2.trans ?_, a3.trans ?_⟩
              · show vp_updL (B 65) q _ q = _
                rw [vp_updL, if_pos rfl]
              · show vp_updL (B 66) q _ q = _
                rw [vp_updL, if_pos rfl]
              · show vp_updL (B 67) q _ q = _
                rw [vp_updL, if_pos rfl]
            · exact q5 q (by omega) h4
end S3
