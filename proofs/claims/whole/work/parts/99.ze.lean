section ZE
variable {I I' I1 I1' : Nat → Int32} {J J' J1 J1' : Nat → Int64} {A A' A1 A1' Ar : Nat → Nat → Int32} {B B' B1 B1' Br : Nat → Nat → Int64} {T : Nat → Option Txt} {M : Nat → Option Img} {X : Txt → Int32 → (Nat → Int32) → (Nat → Int32) → Prop} {G : Nat → Nat → Int32 → Prop} {K : Nat → Int32}
theorem RE_fr (hX : XE X) (hI : ∀ k, k < 45 ∨ k = 73 ∨ k = 75 → I' k = I k) (hA : ∀ a, a < 45 ∨ a = 72 ∨ a = 74 → A' a = A a) (hI1 : ∀ k, k = 0 ∨ k = 20 ∨ k = 21 ∨ k = 41 ∨ k = 45 → I1' k = I1 k) (hA1 : ∀ a, a = 1 ∨ a = 2 ∨ a = 3 ∨ a = 17 ∨ a = 18 ∨ a = 40 ∨ a = 44 → A1' a = A1 a) (h : RE X G I J A B T M I1 J1 A1 B1) : RE X G I' J' A' B' T M I1' J1' A1' B1' := by
  obtain ⟨h1, h2, h3, h4, h5, h6, h7, h8⟩ := h
  refine ⟨SR_ext hX (fun k k1 k2 => hI k (by omega)) (fun a k1 k2 j => by rw [hA a (by omega)]) (fun j _ => by rw [hA1 1 (by omega)]) h1, fun k hk => ?_, ?_, ?_, ?_, ?_, ?_, ?_⟩
  · rw [hA1 3 (by omega), hA1 2 (by omega)]; exact h2 k hk
  · rw [hI 7 (by omega), hI1 20 (by omega), hA 6 (by omega), hA1 18 (by omega)]; exact h3
  · rw [hI 73 (by omega), hI1 41 (by omega), hA 72 (by omega), hA1 40 (by omega)]; exact h4
  · rw [hI 75 (by omega), hI1 45 (by omega), hA 74 (by omega), hA1 44 (by omega)]; exact h5
  · rw [hI 8 (by omega), hI1 21 (by omega)]; exact h6
  · rw [hI 9 (by omega), hI1 0 (by omega)]; exact h7
  · rw [hA1 17 (by omega)]; exact h8
/-- a text is there, to both -/
theorem tx_p (hs : SR X G I A T K) (x : Int32) : (txP T I x = none → rg x 0 (K 1634 - 1) = 0) ∧ (∀ t, txP T I x = some t → ∃ i, i < 8 ∧ x = nI i ∧ ¬ rg x 0 (K 1634 - 1) = 0 ∧ X t (K (1639 + i)) (fun j => K (1647 + 400 * i + j)) (fun j => K (4847 + 400 * i + j))) := by
  obtain ⟨e, k, hk, ek, hT⟩ := hs.2.2.2.2.2.2.2.2
  rw [← e, ek]
  unfold txP rg
  by_cases c0 : x < 0
  · rw [if_pos c0, if_pos c0]
    exact ⟨fun _ => rfl, fun t h => by cases h⟩
  · rw [if_neg c0, if_neg c0]
    obtain ⟨i, hi, rfl⟩ : ∃ i, i < 2 ^ 31 ∧ x = nI i := by
      rw [i32_lt] at c0
      have z : (0 : Int32).toInt = 0 := rfl
      rw [z] at c0
      have := Int32.toInt_lt x
      refine ⟨x.toInt.toNat, by omega, ?_⟩
      apply Int32.toInt_inj.mp
      rw [nI_toInt (by omega)]
      omega
    rw [ek, ix_n hi]
    by_cases ck0 : k ≤ i
    · rw [if_pos ((nn_le (by omega) hi).mpr ck0)]
      refine ⟨fun _ => ?_, fun t h => by cases h⟩
      rw [if_pos]
      rw [i32_lt, nI_toInt hi]
      by_cases k0 : k = 0
      · subst k0
        have : (nI 0 - 1).toInt = -1 := by decide
        omega
      · rw [show nI k - 1 = nI (k - 1) by rw [show (1 : Int32) = nI 1 from rfl, pk_sub (by omega)], nI_toInt (by omega)]
        omega
    · rw [if_neg (fun q => ck0 ((nn_le (by omega) hi).mp q)), if_neg (show ¬ 8 ≤ nI i by rw [show (8 : Int32) = nI 8 from rfl, nn_le (by decide) hi]; omega)]
      obtain ⟨t, e1, e2⟩ := hT i (by omega)
      rw [e1, show nI k - 1 = nI (k - 1) by rw [show (1 : Int32) = nI 1 from rfl, pk_sub (by omega)], if_neg (show ¬ nI (k - 1) < nI i by rw [nn_lt (by omega) hi]; omega)]
      exact ⟨fun h => (by cases h), fun t' h => (by cases h; exact ⟨i, by omega, rfl, by decide, e2⟩)⟩
/-- a text asked by both -/
theorem tx_a {i : Nat} {t : Txt} (hi : i < 8) (hX : XX t (Ar 1 (1639 + i)) (fun j => Ar 1 (1647 + 400 * i + j)) (fun j => Ar 1 (4847 + 400 * i + j))) (lk : LK A Ar Br) : ∃ d, (∀ y, ISs (d y)) ∧ (∀ (y : Nat) (I : Nat → Int32) (J : Nat → Int64) (B : Nat → Nat → Int64), 1 ≤ y → y ≤ 3 → ∃ r I' J' B', sX0_tells t.1 t.2.1 t.2.2.1 t.2.2.2 (nI (255 + y)) I J A B = some (r, I', J', B') ∧ (∀ q, ¬ q = 98 → I' q = I q) ∧ (∀ b, ¬ b = 97 → B' b = B b) ∧ (∀ q, ¬ q = 95 → J' q = J q) ∧ ((r = 1 ∧ d y = some (J' 95)) ∨ (r = 0 ∧ d y = none ∧ J' = J))) ∧ (∀ (I : Nat → Int32) (J : Nat → Int64), ∃ I' J', sX8_asks (nI i) I J Ar Br = some (I', J') ∧ (∀ q, q < 29 ∨ 38 < q → I' q = I q) ∧ (∀ q, ¬ q = 34 → ¬ q = 35 → J' q = J q) ∧ ZQF d I' J') := by
  obtain ⟨d, d1, d2, d3⟩ := tx_m (ba := 400 * i) (Ar := Ar) (Br := Br) hX lk (by omega) (fun j _ => ⟨rfl, rfl⟩)
  refine ⟨d, d1, d2, fun I J => ?_⟩
  unfold sX8_asks
  dsimp only [gv]
  rw [show (400 : Int32) * nI i = nI (400 * i) by rw [show (400 : Int32) = nI 400 from rfl, pk_mul], show (1639 : Int32) + nI i = nI (1639 + i) from nI_add 1639 i, ck, if_pos (inB_n (by omega) (by decide)), ix_n (by omega), upd_s]
  obtain ⟨I', J', E, a1, a2, a3⟩ := d3 (upd (upd (upd (upd (upd I 29 (nI (400 * i))) 30 (nI (400 * i) + Ar 1 (1639 + i))) 36 0) 37 0) 38 0) J rfl rfl rfl rfl rfl
  rw [E]
  refine ⟨I', J', rfl, fun q hq => (a1 q (by omega) (by omega) (by omega) (by omega) (by omega)).trans ?_, a2, a3⟩
  rw [upd_n _ _ (by omega), upd_n _ _ (by omega), upd_n _ _ (by omega), upd_n _ _ (by omega), upd_n _ _ (by omega)]
theorem f33 {x1 x2 x5 : Int32} {x3 : Int64} : ∀ (m f i : Nat) (B : Nat → Nat → Int64), i + m = 10 → m < f → ∃ B2, lX8_first_33 f x1 x2 x3 x5 (nI i) I J A B = some B2 ∧ (∀ b, ¬ b = 32 → B2 b = B b) ∧ (∀ j, i ≤ j → j < 10 → B2 32 j = 0) ∧ ∀ j, j < i → B2 32 j = B 32 j := by
  intro m
  induction m with
  | zero =>
    intro f i B hi hf
    obtain ⟨f, rfl⟩ : ∃ g, f = g + 1 := ⟨f - 1, by omega⟩
    have : i = 10 := hi
    subst this
    rw [lX8_first_33, if_pos (by decide)]
    exact ⟨B, rfl, fun _ _ => rfl, fun j _ _ => by omega, fun _ _ => rfl⟩
  | succ m ih =>
    intro f i B hi hf
    obtain ⟨f, rfl⟩ : ∃ g, f = g + 1 := ⟨f - 1, by omega⟩
    rw [lX8_first_33, if_neg (show ¬ 10 ≤ nI i by rw [show (10 : Int32) = nI 10 from rfl, nn_le (by decide) (by omega)]; omega), ck, if_pos (inB_n (by omega) (by decide)), ix_n (by omega)]
    dsimp only [gv]
    rw [nI_1]
    obtain ⟨B2, E, a1, a2, a3⟩ := ih f (i + 1) (va_up B 32 (vp_updL (B 32) i 0)) (by omega) (by omega)
    refine ⟨B2, E, fun b hb => (a1 b hb).trans (va_up_ne _ _ hb), fun j h1 h2 => ?_, fun j hj => ?_⟩
    · by_cases c : j = i
      · rw [a3 j (by omega), va_up_self, c]; simp [vp_updL]
      · exact a2 j (by omega) h2
    · rw [a3 j (by omega), va_up_self]
      have : ¬ j = i := by omega
      simp [vp_updL, this]
theorem f57 {x1 x2 x5 : Int32} {x3 : Int64} : ∀ (m f i : Nat) (A : Nat → Nat → Int32), i + m = 4 → m < f → ∃ A2, lX8_first_57 f x1 x2 x3 x5 (nI i) I J A B = some A2 ∧ (∀ b, ¬ b = 33 → A2 b = A b) ∧ (∀ j, i ≤ j → j < 4 → A2 33 j = 0) ∧ ∀ j, j < i → A2 33 j = A 33 j := by
  intro m
  induction m with
  | zero =>
    intro f i B hi hf
    obtain ⟨f, rfl⟩ : ∃ g, f = g + 1 := ⟨f - 1, by omega⟩
    have : i = 4 := hi
    subst this
    rw [lX8_first_57, if_pos (by decide)]
    exact ⟨_, rfl, fun _ _ => rfl, fun j _ _ => by omega, fun _ _ => rfl⟩
  | succ m ih =>
    intro f i A hi hf
    obtain ⟨f, rfl⟩ : ∃ g, f = g + 1 := ⟨f - 1, by omega⟩
    rw [lX8_first_57, if_neg (show ¬ 4 ≤ nI i by rw [show (4 : Int32) = nI 4 from rfl, nn_le (by decide) (by omega)]; omega), ck, if_pos (inB_n (by omega) (by decide)), ix_n (by omega)]
    dsimp only [gv]
    rw [nI_1]
    obtain ⟨A2, E, a1, a2, a3⟩ := ih f (i + 1) (va_up A 33 (upd (A 33) i (vp_nar .boolean 0))) (by omega) (by omega)
    refine ⟨A2, E, fun b hb => (a1 b hb).trans (va_up_ne _ _ hb), fun j h1 h2 => ?_, fun j hj => ?_⟩
    · by_cases c : j = i
      · rw [a3 j (by omega), va_up_self, c, upd_s]; decide
      · exact a2 j (by omega) h2
    · rw [a3 j (by omega), va_up_self, upd_n _ _ (by omega)]
/-- a tower's values, the class -/
theorem ft_7 {i k : Nat} (hw : I 42 = nI 5) (hk : I 44 = nI k) (hk2 : k ≤ 12) (hi : i < k) : ∃ A2, sX0_faceTower (nI i) I J A B = some A2 ∧ (∀ a, ¬ a = 96 → A2 a = A a) ∧ A2 96 = upd (upd (upd (upd (upd (fillA 14 0 (A 96)) 7 (A 43 (i * 5))) 8 (A 43 (i * 5 + 1))) 9 (A 43 (i * 5 + 2))) 6 (A 43 (i * 5 + 3))) 11 (A 43 (i * 5 + 4)) := by
  have ce : ∀ (A : Nat → Nat → Int32) (c : Nat), c < 5 → sX5_cell 4 (nI i) (nI c) I J A B = some (A 43 (i * 5 + c)) := fun A c hc => cell_7 (n := 4) (k := k) (by decide) hw hk hk2 hi hc
  unfold sX0_faceTower
  dsimp only [gv]
  rw [show sX5_cell 4 (nI i) 0 I J _ B = _ from ce _ 0 (by decide)]
  dsimp only [Option.bind_some]
  rw [show sX5_cell 4 (nI i) 1 I J _ B = _ from ce _ 1 (by decide)]
  dsimp only [Option.bind_some]
  rw [show sX5_cell 4 (nI i) 2 I J _ B = _ from ce _ 2 (by decide)]
  dsimp only [Option.bind_some]
  rw [show sX5_cell 4 (nI i) 3 I J _ B = _ from ce _ 3 (by decide)]
  dsimp only [Option.bind_some]
  rw [show sX5_cell 4 (nI i) 4 I J _ B = _ from ce _ 4 (by decide)]
  dsimp only [Option.bind_some]
  refine ⟨_, rfl, fun a ha => ?_, ?_⟩
  · simp only [va_up_ne _ _ ha]
  · simp only [va_up_self, va_up_ne _ _ (show ¬ 43 = 96 by decide)]
    rfl
end ZE
