theorem l_m1 : (-1 : Int64) = lI (-1) := by decide +kernel
/-- what Bearing holds, as whole numbers -/
def BS (e : Nat → Nat → Int) (I : Nat → Int32) (J : Nat → Int64) (A : Nat → Nat → Int32) : Prop := EB e ∧ (∀ j, j < 48 → (A 10 j).toInt = e 0 j) ∧ (∀ j, j < 48 → (A 51 j).toInt = e 1 j) ∧ (∀ t, t < 6 → (A 14 t).toInt = e 2 t) ∧ (∀ t, t < 6 → (A 55 t).toInt = e 3 t) ∧ (∀ t, t < 6 → (A 56 t).toInt = e 4 t) ∧ J 58 = lI (e 5 0) ∧ J 59 = lI (e 5 1) ∧ (I 57).toInt = e 5 2
theorem BS_x {e : Nat → Nat → Int} {I I' : Nat → Int32} {J J' : Nat → Int64} {A A' : Nat → Nat → Int32} (h : BS e I J A) (hI : I' 57 = I 57) (hJ : J' 58 = J 58 ∧ J' 59 = J 59) (hA : A' 10 = A 10 ∧ A' 51 = A 51 ∧ A' 14 = A 14 ∧ A' 55 = A 55 ∧ A' 56 = A 56) : BS e I' J' A' := by
  obtain ⟨h0, h1, h2, h3, h4, h5, h6, h7, h8⟩ := h
  obtain ⟨a1, a2, a3, a4, a5⟩ := hA
  exact ⟨h0, by rw [a1]; exact h1, by rw [a2]; exact h2, by rw [a3]; exact h3, by rw [a4]; exact h4, by rw [a5]; exact h5, by rw [hJ.1]; exact h6, by rw [hJ.2]; exact h7, by rw [hI]; exact h8⟩
section S4
variable {e : Nat → Nat → Int} {g : Nat → Bool} {t : Nat} {I : Nat → Int32} {J : Nat → Int64} {A : Nat → Nat → Int32} {B : Nat → Nat → Int64} {gm : Int32}
theorem sd_7 (hb : BS e I J A) (ht : t < 6) (hm : ∀ i, i < 8 → bb gm i = g (8 * t + i)) : ∃ A2 B2, sX1_stands (nI t) gm I J A B = some (if okF e g t = true then 1 else 0, A2, B2) ∧ (∀ a, ¬ a = 64 → A2 a = A a) ∧ (∀ b, ¬ b = 65 → ¬ b = 66 → ¬ b = 67 → B2 b = B b) ∧ (okF e g t = true → ∀ f, f < 4 → B2 65 f = lI (sF e g t f * (1000 * kF e g t f)) ∧ B2 66 f = lI (uF e t f * (2 * wF e g t)) ∧ B2 67 f = lI (dF e g t f)) := by
  obtain ⟨he, h10, h51, h14, h55, h56, hE, hN, h57⟩ := hb
  obtain ⟨A2, q1, q2, q3, q4⟩ := as_7 (I := I) (J := J) (B := B) he ht hm FU 0 A (by unfold FU; omega) (by omega) h10
  have q1 : lX1_addStiffs_2 FU (nI t) gm 0 I J A B = some A2 := q1
  have k0 : (A2 64 (ix 0)).toInt64 = lI (kF e g t 0) := l_32 (q4 0 (by omega) (by omega))
  have k1 : (A2 64 (ix 1)).toInt64 = lI (kF e g t 1) := l_32 (q4 1 (by omega) (by omega))
  have k2 : (A2 64 (ix 2)).toInt64 = lI (kF e g t 2) := l_32 (q4 2 (by omega) (by omega))
  have k3 : (A2 64 (ix 3)).toInt64 = lI (kF e g t 3) := l_32 (q4 3 (by omega) (by omega))
  have c2 : (2 : Int64) = lI 2 := by decide +kernel
  have ew : lI (kF e g t 0) * lI (kF e g t 2) * (lI (kF e g t 1) + lI (kF e g t 3)) + lI (kF e g t 1) * lI (kF e g t 3) * (lI (kF e g t 0) + lI (kF e g t 2)) = lI (wF e g t) := by
    unfold wF
    simp only [l_mul, l_add]
  have hw := wF_b (g := g) he ht
  have a55 : (A2 55 t).toInt64 = lI (e 3 t) := by rw [q2 55 (by decide)]; exact l_32 (h55 t ht)
  have a56 : (A2 56 t).toInt64 = lI (e 4 t) := by rw [q2 56 (by decide)]; exact l_32 (h56 t ht)
  have i57 : (I 57).toInt64 = lI (e 5 2) := l_32 h57
  have qs : sX1_addStiffs (nI t) gm I J A B = some A2 := by unfold sX1_addStiffs; rw [q1]; rfl
  unfold sX1_stands
  rw [qs]
  dsimp only [gv, Option.bind_some]
  rw [k0, k1, k2, k3, ew]
  by_cases hz : wF e g t = 0
  · have hno : ¬ okF e g t = true := fun q => ((okF_i _ _ _).mp q).1 hz
    rw [if_pos ((l_c0 (by omega)).mpr hz), if_neg hno]
    exact ⟨A2, B, rfl, q2, fun _ _ _ _ => rfl, fun q => absurd q hno⟩
  · rw [if_neg (fun q => hz ((l_c0 (by omega)).mp q)), ix_n (show t < 2 ^ 31 by omega), a55, a56, i57, hE, hN]
    simp only [ck, if_pos (inB_n (show t < 6 by omega) (by decide))]
    rw [c2]
    generalize hB0 : (va_up (va_up (va_up (va_up (va_up (va_up (va_up (va_up B 65 _) 65 _) 65 _) 65 _) 66 _) 66 _) 66 _) 66 _ : Nat → Nat → Int64) = B0
    have f65 : ∀ q, q < 4 → B0 65 q = lI (sF e g t q) ∧ B0 66 q = lI (uF e t q) := by
      intro q hq
      subst hB0
      unfold sF
      match q, hq with
      | 0, _ => exact ⟨by simp only [sW, l_mul, l_add, l_sub]; rfl, by simp only [uF, l_mul]; rfl⟩
      | 1, _ => exact ⟨by simp only [sW, l_mul, l_add, l_sub]; rfl, by simp only [uF, l_mul]; rfl⟩
      | 2, _ => exact ⟨by simp only [sW, l_mul, l_add, l_sub]; rfl, by simp only [uF, l_mul, l_neg]; rfl⟩
      | 3, _ => exact ⟨by simp only [sW, l_mul, l_add, l_sub]; rfl, by simp only [uF, l_mul, l_neg]; rfl⟩
      | q + 4, hq => omega
    have fo : ∀ b, ¬ b = 65 → ¬ b = 66 → B0 b = B b := by
      intro b b1 b2
      subst hB0
      rw [va_up_ne _ _ b2, va_up_ne _ _ b2, va_up_ne _ _ b2, va_up_ne _ _ b2, va_up_ne _ _ b1, va_up_ne _ _ b1, va_up_ne _ _ b1, va_up_ne _ _ b1]
    rw [show lI 2 * lI (wF e g t) = lI (2 * wF e g t) from (l_mul _ _).symm]
    unfold sX1_hasCommonDivisors
    rcases hc_7 (I := I) (J := J) (A := A2) (k := kF e g t) (s := sF e g t) (u := uF e t) (W := 2 * wF e g t) (fun q hq => q4 q (by omega) hq) (fun q hq => Nat.lt_of_le_of_lt (uF_b he ht) (by decide)) FU 0 B0 (by unfold FU; omega) (by omega) (fun q _ hq => f65 q hq) with ⟨⟨q, -, p2, p3, p4⟩, B2, p5, p6⟩ | ⟨p1, B2, p2, p3, -, p5⟩
    · have p5 : lX1_hasCommonDivisors_2 FU (lI (2 * wF e g t)) 0 I J A2 B0 = some (.inl B2) := p5
      have hno : ¬ okF e g t = true := fun h => by
        rcases ((okF_i _ _ _).mp h).2 q p2 with h | h
        · exact h p3
        · exact p4 h
      rw [p5, if_neg hno]
      exact ⟨A2, B2, rfl, q2, fun b b1 b2 b3 => by rw [p6 b b1 b2 b3, fo b b1 b2], fun h => absurd h hno⟩
    · have p2 : lX1_hasCommonDivisors_2 FU (lI (2 * wF e g t)) 0 I J A2 B0 = some (.inr B2) := p2
      have hyes : okF e g t = true := (okF_i _ _ _).mpr ⟨hz, fun f hf => p1 f (by omega) hf⟩
      rw [p2, if_pos hyes]
      exact ⟨A2, B2, rfl, q2, fun b b1 b2 b3 => by rw [p3 b b1 b2 b3, fo b b1 b2], fun _ f hf => p5 f (by omega) hf⟩
theorem fc_1 {j : Nat} (hj : j < 48) : sX1_faceOf (nI j) = some (nI (j / 2 % 4)) := by
  unfold sX1_faceOf
  rw [show nI j / (2 : Int32) = nI (j / 2) from pk_div (by omega) (by decide) (by decide), show nI (j / 2) - nI (j / 2) / (4 : Int32) * 4 = nI (j / 2 % 4) from pk_rem (by omega) (by decide) (by decide)]
theorem pl_7 {j : Nat} (hj : j < 48) (h10 : ∀ j, j < 48 → (A 10 j).toInt = e 0 j) (h65 : B 65 (j / 2 % 4) = lI (sF e g (j / 8) (j / 2 % 4) * (1000 * kF e g (j / 8) (j / 2 % 4)))) (h66 : B 66 (j / 2 % 4) = lI (uF e (j / 8) (j / 2 % 4) * (2 * wF e g (j / 8)))) : sX1_pullOf (nI j) I J A B = some (lI (pF e g j)) := by
  unfold sX1_pullOf
  rw [fc_1 hj]
  show gv _ _ = _
  dsimp only [gv]
  rw [show nI j - nI j / (2 : Int32) * 2 = nI (j % 2) from pk_rem (by omega) (by decide) (by decide), ix_n (show j < 2 ^ 31 by omega), ix_n (show j / 2 % 4 < 2 ^ 31 by omega), l_32 (h10 j hj), h65, h66]
  simp only [ck, if_pos (inB_n (show j < 48 by omega) (by decide)), if_pos (inB_n (show j / 2 % 4 < 4 by omega) (by decide))]
  have key : ∀ x : Int, lI (e 0 j) * (lI x + lI (uF e (j / 8) (j / 2 % 4) * (2 * wF e g (j / 8)))) = lI (e 0 j * (x + uF e (j / 8) (j / 2 % 4) * (2 * wF e g (j / 8)))) := fun x => by rw [l_mul (e 0 j), l_add]
  unfold pF
  by_cases h : j % 2 = 0
  · rw [if_pos (by rw [h]; rfl), if_pos h, key]
  · rw [if_neg (by rw [show (0 : Int32) = nI 0 from rfl, nI_eq (by omega) (by decide)]; exact h), if_neg h, ← l_neg, key]
/-- a tier's joint that goes next, as the machine holds it -/
def wI (o : Option (Nat × Int)) : Int32 := match o with | none => -1 | some p => nI p.1
def xI (o : Option (Nat × Int)) : Int := match o with | none => -1 | some p => p.2
def lk (e : Nat → Nat → Int) (g : Nat → Bool) (t : Nat) : Option (Nat × Int) := if okF e g t = true then bT (qF e g) (8 * t) 8 else none
theorem qF_b {j : Nat} {v : Int} (he : EB e) (hj : j < 48) (h : qF e g j = some v) : v.natAbs ≤ 190636416000000000 := by
  obtain ⟨-, -, rfl⟩ := qF_g h
  rw [Int.natAbs_tdiv]
  exact Nat.le_trans (Nat.div_le_self _ _) (oF_b he hj)
theorem xI_b {i : Nat} (he : EB e) (ht : t < 6) (hi : i ≤ 8) : (xI (bT (qF e g) (8 * t) i)).natAbs ≤ 190636416000000000 := by
  cases h : bT (qF e g) (8 * t) i with
  | none => decide
  | some p =>
    obtain ⟨p1, p2, p3⟩ := bT_s h
    exact qF_b he (by omega) p3
theorem lp_7 (hb : BS e I J A) (ht : t < 6) (hm : ∀ i, i < 8 → bb (A 60 t) i = g (8 * t + i)) (hok : okF e g t = true) : ∀ (n i : Nat) (A' : Nat → Nat → Int32) (B : Nat → Nat → Int64), 8 < i + n → i ≤ 8 → (∀ a, ¬ a = 61 → A' a = A a) → (∀ f, f < 4 → B 65 f = lI (sF e g t f * (1000 * kF e g t f)) ∧ B 66 f = lI (uF e t f * (2 * wF e g t)) ∧ B 67 f = lI (dF e g t f)) → A' 61 t = wI (bT (qF e g) (8 * t) i) → B 62 t = lI (xI (bT (qF e g) (8 * t) i)) →
    ∃ A2 B2, lX1_look_43 n (nI t) (nI (8 * t)) (nI i) I J A' B = some (A2, B2) ∧ (∀ a, ¬ a = 61 → A2 a = A a) ∧ (∀ q, ¬ q = t → A2 61 q = A' 61 q) ∧ (∀ b, ¬ b = 62 → B2 b = B b) ∧ (∀ q, ¬ q = t → B2 62 q = B 62 q) ∧ A2 61 t = wI (bT (qF e g) (8 * t) 8) ∧ B2 62 t = lI (xI (bT (qF e g) (8 * t) 8)) := by
  obtain ⟨he, h10, h51, h14, h55, h56, hE, hN, h57⟩ := hb
  intro n
  induction n with
  | zero => intro i A' B h1 h2; omega
  | succ n ih =>
    intro i A' B h1 h2 hA hB h61 h62
    rw [lX1_look_43]
    by_cases hi : i = 8
    · subst hi
      rw [if_pos (by decide)]
      exact ⟨A', B, rfl, hA, fun _ _ => rfl, fun _ _ => rfl, fun _ _ => rfl, h61, h62⟩
    · rw [if_neg (by rw [show (8 : Int32) = nI 8 from rfl, nn_le (by decide) (by omega)]; omega)]
      have hj : 8 * t + i < 48 := by omega
      have j8 : (8 * t + i) / 8 = t := by omega
      have j4 : (8 * t + i) / 2 % 4 = i / 2 := by omega
      dsimp only [gv]
      rw [nI_add, show nI i / (2 : Int32) = nI (i / 2) from pk_div (by omega) (by decide) (by decide), ix_n (show i / 2 < 2 ^ 31 by omega), ix_n (show t < 2 ^ 31 by omega), ix_n (show 8 * t + i < 2 ^ 31 by omega), nI_1]
      simp only [ck, if_pos (inB_n (show t < 6 by omega) (by decide)), if_pos (inB_n (show i / 2 < 4 by omega) (by decide)), if_pos (inB_n hj (by decide))]
      obtain ⟨b65, b66, b67⟩ := hB (i / 2) (by omega)
      rw [b67, hA 60 (by decide), hA 14 (by decide), hA 51 (by decide)]
      have hpl : sX1_pullOf (nI (8 * t + i)) I J A' B = some (lI (pF e g (8 * t + i))) := by
        refine pl_7 hj (fun j h => by rw [hA 10 (by decide)]; exact h10 j h) ?_ ?_
        · rw [j8, j4]; exact b65
        · rw [j8, j4]; exact b66
      -- nothing of this joint
      have skip : sg (qF e g) (8 * t + i) = none → ∃ A2 B2, lX1_look_43 n (nI t) (nI (8 * t)) (nI (i + 1)) I J A' B = some (A2, B2) ∧ (∀ a, ¬ a = 61 → A2 a = A a) ∧ (∀ q, ¬ q = t → A2 61 q = A' 61 q) ∧ (∀ b, ¬ b = 62 → B2 b = B b) ∧ (∀ q, ¬ q = t → B2 62 q = B 62 q) ∧ A2 61 t = wI (bT (qF e g) (8 * t) 8) ∧ B2 62 t = lI (xI (bT (qF e g) (8 * t) 8)) := by
        intro hs
        have e1 : bT (qF e g) (8 * t) (i + 1) = bT (qF e g) (8 * t) i := by
          show cb _ _ = _
          rw [hs, cb_r]
        exact ih (i + 1) A' B (by omega) (by omega) hA hB (by rw [e1]; exact h61) (by rw [e1]; exact h62)
      have c1 : (ushr (A 60 t) (nI i) &&& 1 = 0) ↔ g (8 * t + i) = false := by rw [u1_i _ (by omega), hm _ (by omega)]
      cases hg : g (8 * t + i) with
      | true =>
        rw [if_neg (fun q => by rw [c1.mp q] at hg; cases hg)]
        refine skip ?_
        unfold sg qF
        rw [if_pos hg]
      | false =>
        have hd := dF_1 he hj hg (by rw [j8]; exact hok)
        rw [j8, j4] at hd
        have hd2 : (dF e g t (i / 2)).natAbs ≤ 839808000 := dF_b he ht (by omega)
        rw [if_pos (c1.mpr hg), if_neg (fun q => by have := (l_c0 (by omega)).mp q; omega), hpl]
        have hov : lI (pF e g (8 * t + i)) - 1000 * (A 14 t + A 51 (8 * t + i)).toInt64 * lI (dF e g t (i / 2)) = lI (oF e g (8 * t + i)) := by
          have r1 := he.2.1 _ hj
          have r2 := he.2.2.1 t ht
          rw [l_32 (i_add (h14 t ht) (h51 _ hj) (by omega))]
          unfold oF
          rw [j8, j4, l_sub, l_mul, l_mul]
          rfl
        have ho := oF_b (g := g) he hj
        show ∃ A2 B2, (if lg_cmp (lI (pF e g (8 * t + i)) - 1000 * (A 14 t + A 51 (8 * t + i)).toInt64 * lI (dF e g t (i / 2))) 0 ≤ 0 then _ else _) = _ ∧ _
        rw [hov]
        by_cases hle : oF e g (8 * t + i) ≤ 0
        · rw [if_pos (by rw [l_z, l_cle (by omega) (by decide)]; exact hle)]
          refine skip ?_
          unfold sg qF
          rw [if_neg (by rw [hg]; decide), if_pos hle]
        · rw [if_neg (by rw [l_z, l_cle (by omega) (by decide)]; exact hle), if_pos (l_nz (by omega) (by omega)), l_td (by omega) (by omega) (by omega), h62]
          have hq : qF e g (8 * t + i) = some ((oF e g (8 * t + i)).tdiv (dF e g t (i / 2))) := by
            unfold qF
            rw [if_neg (by rw [hg]; decide), if_neg hle, j8, j4]
          have hs : sg (qF e g) (8 * t + i) = some (8 * t + i, (oF e g (8 * t + i)).tdiv (dF e g t (i / 2))) := by
            unfold sg
            rw [hq]
          have hv := qF_b he hj hq
          have hx := xI_b (g := g) he ht (show i ≤ 8 by omega)
          have hpos : 0 ≤ (oF e g (8 * t + i)).tdiv (dF e g t (i / 2)) := Int.tdiv_nonneg (by omega) (by omega)
          by_cases hcmp : (oF e g (8 * t + i)).tdiv (dF e g t (i / 2)) ≤ xI (bT (qF e g) (8 * t) i)
          · rw [if_pos (by rw [l_cle (by omega) (by omega)]; exact hcmp)]
            have e1 : bT (qF e g) (8 * t) (i + 1) = bT (qF e g) (8 * t) i := by
              show cb _ _ = _
              rw [hs]
              cases hbt : bT (qF e g) (8 * t) i with
              | none => rw [hbt] at hcmp; have : xI none = -1 := rfl; omega
              | some p =>
                rw [hbt] at hcmp
                have : xI (some p) = p.2 := rfl
                show (if p.2 < _ then _ else _) = _
                rw [if_neg (by show ¬ p.2 < (oF e g (8 * t + i)).tdiv (dF e g t (i / 2)); omega)]
            exact ih (i + 1) A' B (by omega) (by omega) hA hB (by rw [e1]; exact h61) (by rw [e1]; exact h62)
          · rw [if_neg (by rw [l_cle (by omega) (by omega)]; exact hcmp), if_pos (l_nz (by omega) (by omega))]
            have e1 : bT (qF e g) (8 * t) (i + 1) = some (8 * t + i, (oF e g (8 * t + i)).tdiv (dF e g t (i / 2))) := by
              show cb _ _ = _
              rw [hs]
              cases hbt : bT (qF e g) (8 * t) i with
              | none => rfl
              | some p =>
                rw [hbt] at hcmp
                have : xI (some p) = p.2 := rfl
                show (if p.2 < _ then _ else _) = _
                rw [if_pos (by show p.2 < (oF e g (8 * t + i)).tdiv (dF e g t (i / 2)); omega)]
            obtain ⟨A2, B2, q1, q2, q3, q4, q5, q6, q7⟩ := ih (i + 1) (va_up A' 61 (upd (A' 61) t (nI (8 * t + i)))) (va_up B 62 (vp_updL (B 62) t (lI ((oF e g (8 * t + i)).tdiv (dF e g t (i / 2)))))) (by omega) (by omega) (fun a ha => by rw [va_up_ne _ _ ha]; exact hA a ha) (fun f hf => hB f hf) (by rw [e1, va_up_self, upd_s]; rfl) (by rw [e1, va_up_self, vp_updL, if_pos rfl]; rfl)
            refine ⟨A2, B2, q1, q2, fun q hq => ?_, fun b hb => by rw [q4 b hb, va_up_ne _ _ hb], fun q hq => ?_, q6, q7⟩
            · rw [q3 q hq, va_up_self, upd_n _ _ hq]
            · rw [q5 q hq, va_up_self, vp_updL, if_neg hq]
/-- a look at a tier -/
theorem lk_7 (hb : BS e I J A) (ht : t < 6) (hm : ∀ i, i < 8 → bb (A 60 t) i = g (8 * t + i)) : ∃ A2 B2, sX1_look (nI t) I J A B = some ((if okF e g t = true then I else upd I 54 (nI t)), A2, B2) ∧ (∀ a, ¬ a = 61 → ¬ a = 64 → A2 a = A a) ∧ (∀ q, ¬ q = t → A2 61 q = A 61 q) ∧ (∀ b, ¬ b = 62 → ¬ b = 65 → ¬ b = 66 → ¬ b = 67 → B2 b = B b) ∧ (∀ q, ¬ q = t → B2 62 q = B 62 q) ∧ A2 61 t = wI (lk e g t) ∧ B2 62 t = lI (xI (lk e g t)) := by
  unfold sX1_look
  rw [ix_n (show t < 2 ^ 31 by omega)]
  dsimp only [gv]
  simp only [ck, if_pos (inB_n (show t < 6 by omega) (by decide))]
  have hb1 : BS e I J (va_up A 61 (upd (A 61) t (-1))) := BS_x hb rfl ⟨rfl, rfl⟩ ⟨rfl, rfl, rfl, rfl, rfl⟩
  obtain ⟨A3, B3, q1, q2, q3, q4⟩ := sd_7 (g := g) (B := va_up B 62 (vp_updL (B 62) t (-1))) hb1 ht hm
  have q1 : sX1_stands (nI t) (va_up A 61 (upd (A 61) t (-1)) 60 t) I J (va_up A 61 (upd (A 61) t (-1))) (va_up B 62 (vp_updL (B 62) t (-1))) = some (if okF e g t = true then 1 else 0, A3, B3) := q1
  rw [q1]
  unfold lk
  by_cases hok : okF e g t = true
  · rw [if_pos hok, if_pos hok, if_pos hok]
    show ∃ A2 B2, ((lX1_look_43 FU (nI t) (nI t * 8) 0 I J A3 B3).bind fun (A, B) => some (I, A, B)) = _ ∧ _
    have hb3 : BS e I J A3 := BS_x hb1 rfl ⟨rfl, rfl⟩ ⟨q2 10 (by decide), q2 51 (by decide), q2 14 (by decide), q2 55 (by decide), q2 56 (by decide)⟩
    obtain ⟨A2, B2, p1, p2, p3, p4, p5, p6, p7⟩ := lp_7 hb3 ht (by rw [q2 60 (by decide)]; exact hm) hok FU 0 A3 B3 (by unfold FU; omega) (by omega) (fun _ _ => rfl) (q4 hok) (by rw [q2 61 (by decide), va_up_self, upd_s]; rfl) (by rw [q3 62 (by decide) (by decide) (by decide), va_up_self, vp_updL, if_pos rfl]; exact l_m1)
    have p1 : lX1_look_43 FU (nI t) (nI (8 * t)) 0 I J A3 B3 = some (A2, B2) := p1
    rw [show nI t * (8 : Int32) = nI (8 * t) by rw [show (8 : Int32) = nI 8 from rfl, pk_mul, Nat.mul_comm], p1]
    refine ⟨A2, B2, rfl, fun a a1 a2 => ?_, fun q hq => ?_, fun b b1 b2 b3 b4 => ?_, fun q hq => ?_, p6, p7⟩
    · rw [p2 a a1, q2 a a2, va_up_ne _ _ a1]
    · rw [p3 q hq, q2 61 (by decide), va_up_self, upd_n _ _ hq]
    · rw [p4 b b1, q3 b b2 b3 b4, va_up_ne _ _ b1]
    · rw [p5 q hq, q3 62 (by decide) (by decide) (by decide), va_up_self, vp_updL, if_neg hq]
  · rw [if_neg hok, if_neg hok, if_neg hok]
    refine ⟨A3, B3, rfl, fun a a1 a2 => ?_, fun q hq => ?_, fun b b1 b2 b3 b4 => ?_, fun q hq => ?_, ?_, ?_⟩
    · rw [q2 a a2, va_up_ne _ _ a1]
    · rw [q2 61 (by decide), va_up_self, upd_n _ _ hq]
    · rw [q3 b b2 b3 b4, va_up_ne _ _ b1]
    · rw [q3 62 (by decide) (by decide) (by decide), va_up_self, vp_updL, if_neg hq]
    · rw [q2 61 (by decide), va_up_self, upd_s]; rfl
    · rw [q3 62 (by decide) (by decide) (by decide), va_up_self, vp_updL, if_pos rfl]; exact l_m1
end S4
