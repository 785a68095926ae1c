section Z4
variable {I : Nat → Int32} {J : Nat → Int64} {A : Nat → Nat → Int32} {B : Nat → Nat → Int64} {nb nc : Nat} {fb w : Nat → Int32}
theorem wk_j {s b f e : Nat} (hb : b = 42 ∨ b = 43 ∨ b = 45 ∨ b = 47 ∨ b = 60 ∨ b = 61 ∨ b = 62) (hnc : nc ≤ 400) (hw : w (2 * s) = nI b) (h1 : 2 * (s + 1) ≤ e) (h2 : e ≤ nc) : lX0_works_20 nb nc fb w (f + 1) (nI e) (nI (2 * s)) I J A B = (sX0_joins (nI b) I J A B).bind fun a => if a.1 = 0 then some (.inl (a.2.1, a.2.2)) else lX0_works_20 nb nc fb w f (nI e) (nI (2 * (s + 1))) a.2.1 J A a.2.2 := by
  obtain ⟨k1, k2, k3, k4, k5, k6⟩ := wk_h (f := f) (s := s) hnc h1 h2
  have nn : ∀ m, m < 2 ^ 31 → ¬ b = m → ¬ nI b = nI m := fun m h3 h4 h5 => h4 ((nI_eq (by omega) h3).mp h5)
  rw [lX0_works_20, if_neg k1, ck, if_pos k2]
  dsimp only [gv]
  rw [ck, if_pos k3, k4, hw, if_neg (show ¬ nI b = 0 from nn 0 (by decide) (by omega)), if_neg (show ¬ nI b = 1 from nn 1 (by decide) (by omega)), if_neg (show ¬ nI b = 2 from nn 2 (by decide) (by omega)), if_neg (show ¬ nI b = 261 from nn 261 (by decide) (by omega)), if_neg (show ¬ nI b = 260 from nn 260 (by decide) (by omega)), k6]
/-- two things and a sign -/
theorem co_join {nd nd1 nd2 s s1 s2 b : Nat} {p q : Option Int64} (hb : b = 42 ∨ b = 43 ∨ b = 45 ∨ b = 47 ∨ b = 60 ∨ b = 61 ∨ b = 62) (hnc : nc ≤ 400) (h1 : CO nb nc fb w J A nd1 s s1 p) (h2 : CO nb nc fb w J A nd2 s1 s2 q) (l1 : s ≤ s1) (l2 : s1 ≤ s2) (d1 : nd1 ≤ nd) (d2 : nd2 + 1 ≤ nd) (d3 : 2 ≤ nd) (hw : w (2 * s2) = nI b) : CO nb nc fb w J A nd s (s2 + 1) (dJ b p q) := by
  intro f e H I B g1 g2 g3 g4 g5
  obtain ⟨a1, a2⟩ := h1 f e H I B (by omega) g2 (by omega) g4 (by omega)
  cases p with
  | none =>
    obtain ⟨I', B', c1, c2⟩ := a2 rfl
    exact ⟨fun x hx => (by cases hx), fun _ => ⟨I', B', c1, c2⟩⟩
  | some x =>
    obtain ⟨f1, I1, B1, c0, c1, c2, c3, c4, c5, c6⟩ := a1 x rfl
    obtain ⟨b1, b2⟩ := h2 f1 e (H + 1) I1 B1 (by omega) g2 (by omega) c2 (by omega)
    cases q with
    | none =>
      obtain ⟨I', B', e1, e2, e3⟩ := b2 rfl
      exact ⟨fun x hx => (by cases hx), fun _ => ⟨I', B', c1.trans e1, fun q hq => (e2 q hq).trans (c3 q hq), fun q hq => (e3 q hq).trans (c6 q hq)⟩⟩
    | some y =>
      obtain ⟨f2, I2, B2, e0, e1, e2, e3, e4, e5, e6⟩ := b1 y rfl
      obtain ⟨f2, rfl⟩ : ∃ g, f2 = g + 1 := ⟨f2 - 1, by omega⟩
      obtain ⟨r, I3, B3, j1, j2, j3, j4⟩ := jo_1 (I := I2) (J := J) (A := A) (B := B2) (H := H) hb e2 (by omega) ((e5 H (by omega)).trans c4) e4
      have E : lX0_works_20 nb nc fb w f (nI e) (nI (2 * s)) I J A B = (if r = 0 then some (.inl (I3, B3)) else lX0_works_20 nb nc fb w f2 (nI e) (nI (2 * (s2 + 1))) I3 J A B3) := by
        rw [c1, e1, wk_j hb hnc hw (by omega) g2, j1]
        rfl
      have F1 : ∀ q, ¬ q = 98 → I3 q = I q := fun q hq => (j2 q hq).trans ((e3 q hq).trans (c3 q hq))
      have F2 : ∀ q, ¬ q = 97 → B3 q = B q := fun q hq => (j3 q hq).trans ((e6 q hq).trans (c6 q hq))
      rcases j4 with ⟨rfl, j5⟩ | ⟨rfl, v, j5, j6, j7, j8⟩
      · rw [if_pos rfl] at E
        have hd : dJ b (some x) (some y) = none := j5
        exact ⟨fun x hx => (by rw [hd] at hx; cases hx), fun _ => ⟨I3, B3, E, F1, F2⟩⟩
      · rw [if_neg (by decide)] at E
        have hd : dJ b (some x) (some y) = some v := j5
        refine ⟨fun u hu => ?_, fun hu => by rw [hd] at hu; cases hu⟩
        rw [hd] at hu
        cases hu
        exact ⟨f2, I3, B3, by omega, E, j6, F1, j7, fun i hi => ((j8 i hi).trans (e5 i (by omega))).trans (c5 i hi), F2⟩
/-- more room does no harm -/
theorem co_m {nd nd' s s' : Nat} {p : Option Int64} (h : CO nb nc fb w J A nd s s' p) (hd : nd ≤ nd') : CO nb nc fb w J A nd' s s' p := fun f e H I B g1 g2 g3 g4 g5 => h f e H I B g1 g2 g3 g4 (by omega)
/-- a thing and a flip -/
theorem co_flip {nd s s1 : Nat} {p : Option Int64} (hnc : nc ≤ 400) (h1 : CO nb nc fb w J A nd s s1 p) (l1 : s ≤ s1) (d1 : 1 ≤ nd) (hw : w (2 * s1) = 2) : CO nb nc fb w J A nd s (s1 + 1) (p.map fun x => 1 - x) := by
  intro f e H I B g1 g2 g3 g4 g5
  obtain ⟨a1, a2⟩ := h1 f e H I B (by omega) g2 (by omega) g4 (by omega)
  cases p with
  | none =>
    obtain ⟨I', B', c1, c2⟩ := a2 rfl
    exact ⟨fun x hx => (by cases hx), fun _ => ⟨I', B', c1, c2⟩⟩
  | some x =>
    obtain ⟨f1, I1, B1, c0, c1, c2, c3, c4, c5, c6⟩ := a1 x rfl
    obtain ⟨f1, rfl⟩ : ∃ g, f1 = g + 1 := ⟨f1 - 1, by omega⟩
    obtain ⟨k1, k2, k3, k4, k5, k6⟩ := wk_h (f := f1) (s := s1) hnc (show 2 * (s1 + 1) ≤ e by omega) g2
    refine ⟨fun u hu => ?_, fun hu => by cases hu⟩
    cases hu
    refine ⟨f1, upd (upd I1 98 (nI H)) 98 (nI (H + 1)), va_up B1 97 (vp_updL (B1 97) H (1 - x)), by omega, ?_, upd_s _ _ _, fun q hq => by rw [upd_n _ _ hq, upd_n _ _ hq, c3 q hq], ?_, fun i hi => ?_, fun q hq => (va_up_ne _ _ hq).trans (c6 q hq)⟩
    · rw [c1, lX0_works_20, if_neg k1, ck, if_pos k2]
      dsimp only [gv]
      rw [ck, if_pos k3, k4, hw, if_neg (show ¬ (2 : Int32) = 0 by decide), if_neg (show ¬ (2 : Int32) = 1 by decide), if_pos rfl, k6, po_1 c2 (by omega)]
      dsimp only [Option.bind_some]
      rw [c4, pu_1 (upd_s _ _ _) (by omega)]
      rfl
    · rw [va_up_self]; simp [vp_updL]
    · rw [va_up_self]
      have : ¬ i = H := by omega
      simp [vp_updL, this]
      exact c5 i hi
end Z4
