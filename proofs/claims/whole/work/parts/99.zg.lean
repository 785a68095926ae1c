section ZG
variable {I I1 : Nat → Int32} {J J1 : Nat → Int64} {A A1 : Nat → Nat → Int32} {B B1 : Nat → Nat → Int64} {T : Nat → Option Txt} {M : Nat → Option Img}
theorem bt_01 {v : Int32} (h : bt v 0 1) : v = 0 ∨ v = 1 := by
  obtain ⟨h1, h2⟩ := h
  by_cases c : v.toInt = 0
  · exact Or.inl (Int32.toInt_inj.mp c)
  · exact Or.inr (Int32.toInt_inj.mp (show v.toInt = 1 by omega))
theorem fs_l {t : Txt} {x k : Nat} (hx : x < 8) (hk : k ≤ 12) : ∀ (m f f8 i : Nat) (b : Int32) (v : Int64) (I : Nat → Int32) (J : Nat → Int64) (A : Nat → Nat → Int32) (B : Nat → Nat → Int64) (I1 : Nat → Int32) (J1 : Nat → Int64) (A1 : Nat → Nat → Int32) (B1 : Nat → Nat → Int64), i + m = k → m < f → m < f8 → I 44 = nI k → XX t (A1 1 (1639 + x)) (fun j => A1 1 (1647 + 400 * x + j)) (fun j => A1 1 (4847 + 400 * x + j)) → RE XX GG I J A B T M I1 J1 A1 B1 → ∃ r I2 J2 A2 B2 I3 J3 A3 B3, lX7_first_20 t.1 t.2.1 t.2.2.1 t.2.2.2 f b v (nI i) I J A B = some (r, I2, J2, A2, B2) ∧ lX8_first_17 f8 (nI x) b v (nI i) I1 J1 A1 B1 = some (r, I3, J3, A3, B3) ∧ RE XX GG I2 J2 A2 B2 T M I3 J3 A3 B3 := by
  intro m
  induction m with
  | zero =>
    intro f f8 i b v I J A B I1 J1 A1 B1 hm hf hf8 e44 hX hr
    obtain ⟨f, rfl⟩ : ∃ g, f = g + 1 := ⟨f - 1, by omega⟩
    obtain ⟨f8, rfl⟩ : ∃ g, f8 = g + 1 := ⟨f8 - 1, by omega⟩
    have e1 : A1 1 1638 = nI k := (hr.1.2.2.2.2.2.2.2.1 4 (by decide)).2.1.symm.trans e44
    have : i = k := hm
    subst this
    rw [lX7_first_20, lX8_first_17, e44, show A1 1 (ix 1638) = nI i from e1, if_pos (Int32.le_refl _), if_pos (Int32.le_refl _)]
    exact ⟨b, I, J, A, B, I1, J1, A1, B1, rfl, rfl, hr⟩
  | succ m ih =>
    intro f f8 i b v I J A B I1 J1 A1 B1 hm hf hf8 e44 hX hr
    obtain ⟨f, rfl⟩ : ∃ g, f = g + 1 := ⟨f - 1, by omega⟩
    obtain ⟨f8, rfl⟩ : ∃ g, f8 = g + 1 := ⟨f8 - 1, by omega⟩
    obtain ⟨ew, es, k', hk', ek', hc⟩ := hr.1.2.2.2.2.2.2.2.1 4 (by decide)
    have e1 : A1 1 1638 = nI k := es.symm.trans e44
    have kk : k' = k := by
      have : nI k' = nI k := ek'.symm.trans e44
      rw [nI_eq (by have : tN 4 = 12 := rfl; omega) (by omega)] at this
      exact this
    subst kk
    have hc' : ∀ c, c < 5 → A 43 (i * 5 + c) = A1 1 (1573 + (i * 5 + c)) ∧ GG 4 ((i * 5 + c) % 5) (A 43 (i * 5 + c)) := fun c h5 => hc (i * 5 + c) (by have : tW 4 = 5 := rfl; rw [this]; omega) (fun q => absurd q (by decide))
    have h4 : A1 1 (1573 + (i * 5 + 4)) = 0 ∨ A1 1 (1573 + (i * 5 + 4)) = 1 := by
      obtain ⟨g1, g2⟩ := hc' 4 (by decide)
      rw [← g1]
      rw [show (i * 5 + 4) % 5 = 4 by omega] at g2
      exact bt_01 g2
    obtain ⟨A2, E1, a1, a2⟩ := ft_7 (J := J) (A := A) (B := B) (i := i) ew e44 hk (by omega)
    obtain ⟨A3, B3, E2, b1, z0, z1, z2, z3, z4, z5, z6, z7, z8, z9, w0, w1, w2, w3⟩ := ft_8 (f := f8) (I := I1) (J := J1) (B := B1) (i := i) (x1 := nI x) (x2 := b) (x3 := v) e1 hk (by omega) h4
    have lk : LK A2 A3 B3 := by
      refine ⟨fun j hj => ?_, fun j hj => ?_⟩
      · have : j = 0 ∨ j = 1 ∨ j = 2 ∨ j = 3 ∨ j = 4 ∨ j = 5 ∨ j = 6 ∨ j = 7 ∨ j = 8 ∨ j = 9 := by omega
        rw [a2]
        rcases this with rfl | rfl | rfl | rfl | rfl | rfl | rfl | rfl | rfl | rfl
        · rw [z0]; rfl
        · rw [z1]; rfl
        · rw [z2]; rfl
        · rw [z3]; rfl
        · rw [z4]; rfl
        · rw [z5]; rfl
        · rw [z6, ← (hc' 3 (by decide)).1]; rfl
        · rw [z7, show A1 1 (1573 + i * 5) = A 43 (i * 5) from (hc' 0 (by decide)).1.symm]; rfl
        · rw [z8, ← (hc' 1 (by decide)).1]; rfl
        · rw [z9, ← (hc' 2 (by decide)).1]; rfl
      · have : j = 0 ∨ j = 1 ∨ j = 2 ∨ j = 3 := by omega
        rw [a2]
        rcases this with rfl | rfl | rfl | rfl
        · rw [w0]; exact ⟨rfl, Or.inl rfl⟩
        · rw [w1]; exact ⟨(hc' 4 (by decide)).1, h4⟩
        · rw [w2]; exact ⟨rfl, Or.inl rfl⟩
        · rw [w3]; exact ⟨rfl, Or.inl rfl⟩
    have hX3 : XX t (A3 1 (1639 + x)) (fun j => A3 1 (1647 + 400 * x + j)) (fun j => A3 1 (4847 + 400 * x + j)) := by rw [b1 1 (by decide)]; exact hX
    obtain ⟨d, -, d2, d3⟩ := tx_a hx hX3 lk
    obtain ⟨r, I2, J2, B2, F1, c1, c2, c3, c4⟩ := d2 2 I J B (by decide) (by decide)
    obtain ⟨I3, J3, F2, g1, g2, q1, q2, q3, q4, q5⟩ := d3 I1 J1
    have hr' : RE XX GG I2 J2 A2 B2 T M I3 J3 A3 B3 := RE_fr xe_x (fun k hk => c1 k (by omega)) (fun a ha => a1 a (by omega)) (fun k hk => g1 k (by omega)) (fun a ha => b1 a (by omega)) hr
    have key := fun (b : Int32) (v : Int64) => ih f f8 (i + 1) b v I2 J2 A2 B2 I3 J3 A3 B3 (by omega) (by omega) (by omega) ((c1 44 (by decide)).trans e44) hX3 hr'
    rw [lX7_first_20, e44, if_neg (show ¬ nI k' ≤ nI i by rw [nn_le (by omega) (by omega)]; omega), E1, E2, F2]
    dsimp only [Option.bind_some, gv]
    rw [show sX0_tells t.1 t.2.1 t.2.2.1 t.2.2.2 257 I J A2 B = some (r, I2, J2, B2) from F1]
    dsimp only [Option.bind_some]
    unfold fsK
    rw [nI_1, q2]
    rcases c4 with ⟨rfl, e⟩ | ⟨rfl, e, rfl⟩
    · rw [zfl_1 e, if_neg (show ¬ (1 : Int32) = 0 by decide), if_neg (show ¬ (1 : Int32) = 0 by decide), q5 _ e]
      by_cases cb : b = -1
      · rw [if_pos cb, if_pos cb]
        exact key (nI i) (J2 95)
      · rw [if_neg cb, if_neg cb]
        by_cases cc : lg_cmp (J2 95) v ≤ 0
        · rw [if_pos cc, if_neg (Int32.not_lt.mpr cc)]
          exact key b v
        · rw [if_neg cc, if_pos (Int32.not_le.mp cc)]
          exact key (nI i) (J2 95)
    · rw [zfl_0 e, if_pos rfl, if_pos rfl]
      exact key b v
theorem it_8 (x : Int32) : sX8_isText x I1 J1 A1 B1 = some (rg x 0 (A1 1 1634 - 1)) := by
  show ck (isB (rg x 0 (A1 1 1634 - 1))) (some (rg x 0 (A1 1 1634 - 1))) = _
  rw [ck, if_pos (rg_isB _ _ _)]
theorem ps_first : PS_first (RE XX GG) := by
  intro x1 I J A B T M I1 J1 A1 B1 hr
  obtain ⟨p1, p2⟩ := tx_p hr.1 x1
  refine ⟨fun h => ?_, fun t h => ?_⟩
  · refine ⟨-1, I, J, A, B, I1, J1, A1, B1, rfl, ?_, hr⟩
    unfold sX8_first
    rw [it_8]
    dsimp only [Option.bind_some]
    rw [if_pos (p1 h)]
  · obtain ⟨x, hx, rfl, g, hX⟩ := p2 t h
    obtain ⟨ew, es, k, hk, ek, hc⟩ := hr.1.2.2.2.2.2.2.2.1 4 (by decide)
    have hF : FU = 1000000 := rfl
    have hk2 : k ≤ 12 := hk
    obtain ⟨r, I2, J2, A2, B2, I3, J3, A3, B3, E1, E2, hr'⟩ := fs_l (T := T) (M := M) hx hk2 k FU FU 0 (-1) 0 I J A B I1 J1 A1 B1 (by omega) (by omega) (by omega) ek hX hr
    refine ⟨r, I2, J2, A2, B2, I3, J3, A3, B3, ?_, ?_, hr'⟩
    · unfold sX7_firstS
      rw [show (0 : Int32) = nI 0 from rfl, E1]
      rfl
    · unfold sX8_first
      rw [it_8]
      dsimp only [Option.bind_some]
      rw [if_neg g, show (0 : Int32) = nI 0 from rfl, E2]
      rfl
end ZG
