/-! one side by itself -/
def SP {α : Type} (o : Option α) (Q : α → Prop) : Prop := ∃ a, o = some a ∧ Q a
theorem sp_some {α : Type} {Q : α → Prop} {a : α} (h : Q a) : SP (some a) Q := ⟨a, rfl, h⟩
theorem sp_bind {α β : Type} {Q : β → Prop} {o : Option α} {a : α} {f : α → Option β} (h : o = some a) (k : SP (f a) Q) : SP (o.bind f) Q := by rw [h]; exact k
theorem sp_gv {α β : Type} {Q : β → Prop} {e : α} {f : α → Option β} (k : SP (f e) Q) : SP (gv e f) Q := k
theorem sp_gvE {α β : Type} {Q : β → Prop} {e v : α} {f : α → Option β} (h : e = v) (k : SP (f v) Q) : SP (gv e f) Q := by rw [h]; exact k
theorem sp_gvG {α β : Type} {Q : β → Prop} {e : α} {f : α → Option β} (k : ∀ v, v = e → SP (f v) Q) : SP (gv e f) Q := k e rfl
theorem sp_ck {α : Type} {Q : α → Prop} {b : Bool} {o : Option α} (h : b = true) (k : SP o Q) : SP (ck b o) Q := by rw [ck, if_pos h]; exact k
theorem sp_t {α : Type} {Q : α → Prop} {c : Prop} [Decidable c] {a b : Option α} (h : c) (k : SP a Q) : SP (if c then a else b) Q := by rw [if_pos h]; exact k
theorem sp_f {α : Type} {Q : α → Prop} {c : Prop} [Decidable c] {a b : Option α} (h : ¬ c) (k : SP b Q) : SP (if c then a else b) Q := by rw [if_neg h]; exact k
theorem id_p (F a v P : Int) : F * a * v * P = F * P * v * a := by grind
theorem id_q (F l P L G v : Int) : F * l * P * L * G * v = F * P * v * (l * (L * G)) := by grind
def layK (x1 x3 : Int32) (x4 x6 : Int64) (y0_j98 : Int32) (I : Nat → Int32) (J : Nat → Int64) (A : Nat → Nat → Int32) (B : Nat → Nat → Int64) : Option (Int32 × (Nat → Int64) × (Nat → Nat → Int64)) := (sX8_windOf x1 0 I J A B).bind fun r_105 => (sX8_eastOf r_105).bind fun r_108 => gv ((x4 * (r_108.toInt64)) * (y0_j98.toInt64)) fun x9_117 => (sX8_windOf x1 0 I J A B).bind fun r_124 => (sX8_northOf r_124).bind fun r_127 => gv ((x4 * (r_127.toInt64)) * (y0_j98.toInt64)) fun x11_136 => (sX8_term 2 I J A B).bind fun r_146 => (sX8_term 3 I J A B).bind fun r_155 => gv (((x6 * (y0_j98.toInt64)) * (r_146.toInt64)) * (((10 - r_155)).toInt64)) fun x13_161 => (sX8_windOf x1 0 I J A B).bind fun r_169 => (sX8_eastOf r_169).bind fun r_172 => gv (vp_updL J 11 (x13_161 * (r_172.toInt64))) fun J => (sX8_windOf x1 0 I J A B).bind fun r_186 => (sX8_northOf r_186).bind fun r_189 => gv (vp_updL J 10 (x13_161 * (r_189.toInt64))) fun J => (lX8_lays_200 FU x3 x9_117 x11_136 0 I J A B).bind fun B => gv ((B 5 (ix 0)) + (B 5 (ix 2))) fun x15_302 => gv ((B 5 (ix 1)) + (B 5 (ix 3))) fun x17_317 => gv ((B 5 (ix 2)) - (B 5 (ix 0))) fun x19_332 => gv ((B 5 (ix 1)) - (B 5 (ix 3))) fun x21_347 => gv (vp_updL J 7 ((((x15_302 * x17_317) * (x15_302 + x17_317)) - ((x15_302 * x21_347) * x21_347)) - ((x17_317 * x19_332) * x19_332))) fun J => if (lg_cmp (J 7) 0) = 0 then (some ((0 : Int32), J, B)) else gv ((x9_117 * ((x17_317 * (x15_302 + x17_317)) - (x21_347 * x21_347))) + ((x19_332 * x21_347) * x11_136)) fun x23_419 => gv ((x11_136 * ((x15_302 * (x15_302 + x17_317)) - (x19_332 * x19_332))) + ((x19_332 * x21_347) * x9_117)) fun x25_447 => gv (-(((x15_302 * x21_347) * x11_136) + ((x17_317 * x19_332) * x9_117))) fun x27_467 => gv (va_up B 6 (vp_updL (B 6) (ix 0) (x23_419 - x27_467))) fun B => gv (va_up B 6 (vp_updL (B 6) (ix 1) (x25_447 + x27_467))) fun B => gv (va_up B 6 (vp_updL (B 6) (ix 2) (x23_419 + x27_467))) fun B => gv (va_up B 6 (vp_updL (B 6) (ix 3) (x25_447 - x27_467))) fun B => gv (fun (J : Nat → Int64) (B : Nat → Nat → Int64) => if (lg_cmp (J 11) 0) = 0 then (some ((1 : Int32), J, B)) else if (lg_cmp (B 5 (ix 1)) 0) = 0 then (some (0, J, B)) else if (lg_cmp (B 5 (ix 3)) 0) = 0 then (some (0, J, B)) else some (1, J, B)) fun k_544 => if (lg_cmp (J 10) 0) = 0 then (k_544 J B) else if (lg_cmp (B 5 (ix 0)) 0) = 0 then (some (0, J, B)) else if (lg_cmp (B 5 (ix 2)) 0) = 0 then (some (0, J, B)) else k_544 J B
section S7
variable {e : Nat → Nat → Int} {g : Nat → Bool} {t w : Nat} {c : Int32} {I : Nat → Int32} {J : Nat → Int64} {A : Nat → Nat → Int32} {B : Nat → Nat → Int64}
theorem ul_n {f : Nat → Int64} {k j : Nat} {v : Int64} (h : ¬ j = k) : vp_updL f k v j = f j := if_neg h
theorem ul_s {f : Nat → Int64} {k : Nat} {v : Int64} : vp_updL f k v k = v := if_pos rfl
theorem ly_k {F P L G : Int} {k : Nat} {y : Int32} (he : EB e) (h0 : ∀ j, j < 48 → (A 1 j).toInt = e 0 j) (hw : w < 16) (hk : k < 8) (wk : A 1 (165 + 3 * w) = nI k) (tl : (A 1 158).toInt = L) (tg : (10 - A 1 159 : Int32).toInt = G) (e50 : e 5 0 = F * P * (sv_3 k).toInt) (e51 : e 5 1 = F * P * (sv_4 k).toInt) (e52 : e 5 2 = L * G) (hg : ∀ i, i < 48 → i / 8 = t → A 4 i = if g i = true then 1 else 0) (ht : t < 6) (hy : y.toInt = P) : SP (layK (nI w) (nI t) (lI (F * e 3 t)) (lI (F * e 4 t)) y I J A B) (fun a => (a.1 = if okF e g t = true then 1 else 0) ∧ (∀ k, ¬ k = 7 → ¬ k = 10 → ¬ k = 11 → a.2.1 k = J k) ∧ (∀ b, ¬ b = 5 → ¬ b = 6 → a.2.2 b = B b) ∧ a.2.1 7 = lI (4 * wF e g t) ∧ a.2.1 10 = lI (uF e t 0) ∧ a.2.1 11 = lI (uF e t 1) ∧ (∀ f, f < 4 → a.2.2 5 f = lI (kF e g t f)) ∧ (¬ wF e g t = 0 → ∀ f, f < 4 → a.2.2 6 f = lI (2 * sF e g t f))) := by
  have w0 : ∀ J B, sX8_windOf (nI w) 0 I J A B = some (nI k) := fun J B => by rw [← wk]; exact wd_8 (f := 0) hw (by decide)
  have t2 : ∀ J B, sX8_term 2 I J A B = some (A 1 158) := fun J B => term_8 (k := 2) (by decide)
  have t3 : ∀ J B, sX8_term 3 I J A B = some (A 1 159) := fun J B => term_8 (k := 3) (by decide)
  obtain ⟨we, wn⟩ := we_8 k hk
  have v9 : lI (F * e 3 t) * (sv_3 k).toInt64 * y.toInt64 = lI (e 5 0 * e 3 t) := by
    rw [l_32 (show (sv_3 k).toInt = (sv_3 k).toInt from rfl), l_32 hy, ← l_mul, ← l_mul, e50, id_p]
  have v11 : lI (F * e 3 t) * (sv_4 k).toInt64 * y.toInt64 = lI (e 5 1 * e 3 t) := by
    rw [l_32 (show (sv_4 k).toInt = (sv_4 k).toInt from rfl), l_32 hy, ← l_mul, ← l_mul, e51, id_p]
  have v13 : lI (F * e 4 t) * y.toInt64 * (A 1 158).toInt64 * (10 - A 1 159).toInt64 = lI (F * e 4 t * P * L * G) := by
    rw [l_32 hy, l_32 tl, l_32 tg, ← l_mul, ← l_mul, ← l_mul]
  have u11 : lI (F * e 4 t * P * L * G) * (sv_3 k).toInt64 = lI (uF e t 1) := by
    rw [l_32 (show (sv_3 k).toInt = (sv_3 k).toInt from rfl), ← l_mul]
    show _ = lI (e 5 0 * (e 4 t * e 5 2))
    rw [e50, e52, id_q]
  have u10 : lI (F * e 4 t * P * L * G) * (sv_4 k).toInt64 = lI (uF e t 0) := by
    rw [l_32 (show (sv_4 k).toInt = (sv_4 k).toInt from rfl), ← l_mul]
    show _ = lI (e 5 1 * (e 4 t * e 5 2))
    rw [e51, e52, id_q]
  unfold layK
  refine sp_bind (w0 _ _) ?_
  refine sp_bind we ?_
  refine sp_gvE v9 ?_
  refine sp_bind (w0 _ _) ?_
  refine sp_bind wn ?_
  refine sp_gvE v11 ?_
  refine sp_bind (t2 _ _) ?_
  refine sp_bind (t3 _ _) ?_
  refine sp_gvE v13 ?_
  refine sp_bind (w0 _ _) ?_
  refine sp_bind we ?_
  refine sp_gvG (fun J0 hJ0 => ?_)
  refine sp_bind (w0 _ _) ?_
  refine sp_bind wn ?_
  refine sp_gvG (fun J1 hJ1 => ?_)
  rw [u11] at hJ0
  rw [u10] at hJ1
  have j10 : J1 10 = lI (uF e t 0) := by rw [hJ1]; exact ul_s
  have j11 : J1 11 = lI (uF e t 1) := by rw [hJ1, ul_n (by decide), hJ0]; exact ul_s
  have jo : ∀ k, ¬ k = 10 → ¬ k = 11 → J1 k = J k := fun k k1 k2 => by rw [hJ1, ul_n k1, hJ0, ul_n k2]
  obtain ⟨B1, q1, q2, -, q4⟩ := kf_8 (I := I) (J := J1) (x9 := lI (e 5 0 * e 3 t)) (x11 := lI (e 5 1 * e 3 t)) h0 hg ht FU 0 B (by unfold FU; omega) (by omega)
  refine sp_bind q1 ?_
  have k0 : B1 5 (ix 0) = lI (kF e g t 0) := q4 0 (by omega) (by omega)
  have k1 : B1 5 (ix 1) = lI (kF e g t 1) := q4 1 (by omega) (by omega)
  have k2 : B1 5 (ix 2) = lI (kF e g t 2) := q4 2 (by omega) (by omega)
  have k3 : B1 5 (ix 3) = lI (kF e g t 3) := q4 3 (by omega) (by omega)
  refine sp_gvE (show B1 5 (ix 0) + B1 5 (ix 2) = lI (kF e g t 0 + kF e g t 2) by rw [k0, k2, l_add]) ?_
  refine sp_gvE (show B1 5 (ix 1) + B1 5 (ix 3) = lI (kF e g t 1 + kF e g t 3) by rw [k1, k3, l_add]) ?_
  refine sp_gvE (show B1 5 (ix 2) - B1 5 (ix 0) = lI (kF e g t 2 - kF e g t 0) by rw [k2, k0, l_sub]) ?_
  refine sp_gvE (show B1 5 (ix 1) - B1 5 (ix 3) = lI (kF e g t 1 - kF e g t 3) by rw [k1, k3, l_sub]) ?_
  simp only [← l_mul, ← l_add, ← l_sub]
  rw [id_d]
  have ew : kF e g t 0 * kF e g t 2 * (kF e g t 1 + kF e g t 3) + kF e g t 1 * kF e g t 3 * (kF e g t 0 + kF e g t 2) = wF e g t := rfl
  rw [ew]
  have hwb := wF_b (g := g) he ht
  refine sp_gvG (fun J2 hJ2 => ?_)
  have n7 : J2 7 = lI (4 * wF e g t) := by rw [hJ2]; exact ul_s
  have n10 : J2 10 = lI (uF e t 0) := by rw [hJ2, ul_n (by decide)]; exact j10
  have n11 : J2 11 = lI (uF e t 1) := by rw [hJ2, ul_n (by decide)]; exact j11
  have no : ∀ k, ¬ k = 7 → ¬ k = 10 → ¬ k = 11 → J2 k = J k := fun k k1 k2 k3 => by rw [hJ2, ul_n k1, jo k k2 k3]
  rw [n7]
  by_cases hz : wF e g t = 0
  · refine sp_t ((l_c0 (by omega)).mpr (by omega)) (sp_some ⟨?_, no, fun b b1 _ => q2 b b1, n7, n10, n11, fun f hf => q4 f (by omega) hf, fun q => absurd hz q⟩)
    rw [if_neg (fun q => ((okF_i _ _ _).mp q).1 hz)]
  · refine sp_f (fun q => hz (by have := (l_c0 (by omega)).mp q; omega)) ?_
    refine sp_gvG (fun x23 h23 => ?_)
    refine sp_gvG (fun x25 h25 => ?_)
    refine sp_gvG (fun x27 h27 => ?_)
    refine sp_gvG (fun Ba hBa => ?_)
    refine sp_gvG (fun Bb hBb => ?_)
    refine sp_gvG (fun Bc hBc => ?_)
    refine sp_gvG (fun B2 hB2 => ?_)
    have r0 : x23 - x27 = lI (2 * sF e g t 0) := by rw [h23, h27, ← l_neg, ← l_sub, id_0]; rfl
    have r1 : x25 + x27 = lI (2 * sF e g t 1) := by rw [h25, h27, ← l_neg, ← l_add, id_1]; rfl
    have r2 : x23 + x27 = lI (2 * sF e g t 2) := by rw [h23, h27, ← l_neg, ← l_add, id_2]; rfl
    have r3 : x25 - x27 = lI (2 * sF e g t 3) := by rw [h25, h27, ← l_neg, ← l_sub, id_3]; rfl
    rw [r0] at hBa
    rw [r1] at hBb
    rw [r2] at hBc
    rw [r3] at hB2
    have m5 : ∀ q, B2 5 q = B1 5 q := fun q => by rw [hB2, va_up_ne _ _ (by decide), hBc, va_up_ne _ _ (by decide), hBb, va_up_ne _ _ (by decide), hBa, va_up_ne _ _ (by decide)]
    have mo : ∀ b, ¬ b = 5 → ¬ b = 6 → B2 b = B b := fun b b1 b2 => by
      rw [hB2, va_up_ne _ _ b2, hBc, va_up_ne _ _ b2, hBb, va_up_ne _ _ b2, hBa, va_up_ne _ _ b2, q2 b b1]
    have m6 : ∀ f, f < 4 → B2 6 f = lI (2 * sF e g t f) := by
      intro f hf
      match f, hf with
      | 0, _ => rw [hB2, va_up_self, ul_n (by decide), hBc, va_up_self, ul_n (by decide), hBb, va_up_self, ul_n (by decide), hBa, va_up_self]; exact ul_s
      | 1, _ => rw [hB2, va_up_self, ul_n (by decide), hBc, va_up_self, ul_n (by decide), hBb, va_up_self]; exact ul_s
      | 2, _ => rw [hB2, va_up_self, ul_n (by decide), hBc, va_up_self]; exact ul_s
      | 3, _ => rw [hB2, va_up_self]; exact ul_s
      | f + 4, hf => omega
    refine sp_gv ?_
    dsimp only
    rw [n10, n11, m5, m5, m5, m5, k0, k1, k2, k3]
    have hb : ∀ f, f < 4 → (kF e g t f).natAbs < 9223372036854775808 := fun f hf => by have := kF_b (g := g) he ht hf; omega
    have hu : ∀ f, (uF e t f).natAbs < 9223372036854775808 := fun f => Nat.lt_of_le_of_lt (uF_b he ht) (by decide)
    have fin : ∀ r : Int32, (r = if okF e g t = true then 1 else 0) → SP (some (r, J2, B2)) (fun a => (a.1 = if okF e g t = true then 1 else 0) ∧ (∀ k, ¬ k = 7 → ¬ k = 10 → ¬ k = 11 → a.2.1 k = J k) ∧ (∀ b, ¬ b = 5 → ¬ b = 6 → a.2.2 b = B b) ∧ a.2.1 7 = lI (4 * wF e g t) ∧ a.2.1 10 = lI (uF e t 0) ∧ a.2.1 11 = lI (uF e t 1) ∧ (∀ f, f < 4 → a.2.2 5 f = lI (kF e g t f)) ∧ (¬ wF e g t = 0 → ∀ f, f < 4 → a.2.2 6 f = lI (2 * sF e g t f))) := fun r hr => sp_some ⟨hr, no, mo, n7, n10, n11, fun f hf => by show B2 5 f = _; rw [m5]; exact q4 f (by omega) hf, fun _ => m6⟩
    have u2 : uF e t 2 = -uF e t 0 := rfl
    have u3 : uF e t 3 = -uF e t 1 := rfl
    have noF : ∀ f, f < 4 → kF e g t f = 0 → ¬ uF e t f = 0 → (0 : Int32) = if okF e g t = true then 1 else 0 := fun f hf a1 a2 => by
      rw [if_neg (fun q => ?_)]
      rcases ((okF_i _ _ _).mp q).2 f hf with h | h
      · exact h a1
      · exact a2 h
    have all : (¬ kF e g t 0 = 0 ∨ uF e t 0 = 0) → (¬ kF e g t 1 = 0 ∨ uF e t 1 = 0) → (¬ kF e g t 2 = 0 ∨ uF e t 0 = 0) → (¬ kF e g t 3 = 0 ∨ uF e t 1 = 0) → (1 : Int32) = if okF e g t = true then 1 else 0 := fun a0 a1 a2 a3 => by
      rw [if_pos ((okF_i _ _ _).mpr ⟨hz, fun f hf => ?_⟩)]
      match f, hf with
      | 0, _ => exact a0
      | 1, _ => exact a1
      | 2, _ =>
        rw [u2]
        rcases a2 with h | h
        · exact Or.inl h
        · exact Or.inr (by omega)
      | 3, _ =>
        rw [u3]
        rcases a3 with h | h
        · exact Or.inl h
        · exact Or.inr (by omega)
      | f + 4, hf => omega
    have c10 := l_c0 (hu 0)
    have c11 := l_c0 (hu 1)
    have d0 := l_c0 (hb 0 (by decide))
    have d1 := l_c0 (hb 1 (by decide))
    have d2 := l_c0 (hb 2 (by decide))
    have d3 := l_c0 (hb 3 (by decide))
    have east : (¬ kF e g t 0 = 0 ∨ uF e t 0 = 0) → (¬ kF e g t 2 = 0 ∨ uF e t 0 = 0) → SP (if (lg_cmp (lI (uF e t 1)) 0) = 0 then (some ((1 : Int32), J2, B2)) else if (lg_cmp (lI (kF e g t 1)) 0) = 0 then (some (0, J2, B2)) else if (lg_cmp (lI (kF e g t 3)) 0) = 0 then (some (0, J2, B2)) else some (1, J2, B2)) (fun a => (a.1 = if okF e g t = true then 1 else 0) ∧ (∀ k, ¬ k = 7 → ¬ k = 10 → ¬ k = 11 → a.2.1 k = J k) ∧ (∀ b, ¬ b = 5 → ¬ b = 6 → a.2.2 b = B b) ∧ a.2.1 7 = lI (4 * wF e g t) ∧ a.2.1 10 = lI (uF e t 0) ∧ a.2.1 11 = lI (uF e t 1) ∧ (∀ f, f < 4 → a.2.2 5 f = lI (kF e g t f)) ∧ (¬ wF e g t = 0 → ∀ f, f < 4 → a.2.2 6 f = lI (2 * sF e g t f))) := by
      intro a0 a2
      by_cases h1 : uF e t 1 = 0
      · exact sp_t (c11.mpr h1) (fin 1 (all a0 (Or.inr h1) a2 (Or.inr h1)))
      · refine sp_f (fun q => h1 (c11.mp q)) ?_
        by_cases h2 : kF e g t 1 = 0
        · exact sp_t (d1.mpr h2) (fin 0 (noF 1 (by decide) h2 h1))
        · refine sp_f (fun q => h2 (d1.mp q)) ?_
          by_cases h3 : kF e g t 3 = 0
          · exact sp_t (d3.mpr h3) (fin 0 (noF 3 (by decide) h3 (by rw [u3]; omega)))
          · exact sp_f (fun q => h3 (d3.mp q)) (fin 1 (all a0 (Or.inl h2) a2 (Or.inl h3)))
    by_cases h1 : uF e t 0 = 0
    · exact sp_t (c10.mpr h1) (east (Or.inr h1) (Or.inr h1))
    · refine sp_f (fun q => h1 (c10.mp q)) ?_
      by_cases h2 : kF e g t 0 = 0
      · exact sp_t (d0.mpr h2) (fin 0 (noF 0 (by decide) h2 h1))
      · refine sp_f (fun q => h2 (d0.mp q)) ?_
        by_cases h3 : kF e g t 2 = 0
        · exact sp_t (d2.mpr h3) (fin 0 (noF 2 (by decide) h3 (by rw [u2]; omega)))
        · exact sp_f (fun q => h3 (d2.mp q)) (east (Or.inl h2) (Or.inl h3))
theorem ly_8 (hr : RS e w c A) (hg : ∀ i, i < 48 → i / 8 = t → A 4 i = if g i = true then 1 else 0) (ht : t < 6) : ∃ J2 B2, sX8_lays (nI w) c (nI t) I J A B = some (if okF e g t = true then 1 else 0, J2, B2) ∧ (∀ k, ¬ k = 7 → ¬ k = 10 → ¬ k = 11 → J2 k = J k) ∧ (∀ b, ¬ b = 5 → ¬ b = 6 → B2 b = B b) ∧ J2 7 = lI (4 * wF e g t) ∧ J2 10 = lI (uF e t 0) ∧ J2 11 = lI (uF e t 1) ∧ (∀ f, f < 4 → B2 5 f = lI (kF e g t f)) ∧ (¬ wF e g t = 0 → ∀ f, f < 4 → B2 6 f = lI (2 * sF e g t f)) := by
  obtain ⟨he, h0, -, -, F, P, L, G, k, hw, hk, wk, wf, cp, tl, tg, e3, e4, e50, e51, e52⟩ := hr
  have l9 := ls_8 (I := I) (J := J) (B := B) (c := c) hw wf ht FU t (by unfold FU; omega) (by omega) (by omega)
  rw [Int.sub_self, Int.sub_self, Nat.sub_self, Int.mul_zero, show (0 : Int) - ((0 : Nat) : Int) * aS (fun s => (A 1 (144 + s)).toInt) t = 0 by rw [show ((0 : Nat) : Int) = 0 from rfl, Int.zero_mul]; rfl, Int.mul_zero, ← l_z, ← e3 t ht, ← e4 t ht] at l9
  have t4 : ∀ J B, sX8_term 4 I J A B = some (A 1 160) := fun J B => term_8 (k := 4) (by decide)
  have key : sX8_lays (nI w) c (nI t) I J A B = layK (nI w) (nI t) (lI (F * e 3 t)) (lI (F * e 4 t)) (if c = 1 then 100 - A 1 160 else 100) I J A B := by
    unfold sX8_lays
    rw [l9, Option.bind_some]
    show (if c = 1 then (sX8_term 4 I J A B).bind fun r_89 => layK (nI w) (nI t) (lI (F * e 3 t)) (lI (F * e 4 t)) (100 - r_89) I J A B else layK (nI w) (nI t) (lI (F * e 3 t)) (lI (F * e 4 t)) 100 I J A B) = _
    by_cases hc : c = 1
    · rw [if_pos hc, if_pos hc, t4, Option.bind_some]
    · rw [if_neg hc, if_neg hc]
  rw [key]
  obtain ⟨⟨r, J2, B2⟩, z1, z2, z3⟩ := ly_k he h0 hw hk wk tl tg e50 e51 e52 hg ht cp
  cases z2
  exact ⟨J2, B2, z1, z3⟩
end S7
