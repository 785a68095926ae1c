section Z5
variable {I : Nat → Int32} {J : Nat → Int64} {A : Nat → Nat → Int32} {B : Nat → Nat → Int64} {nb nc : Nat} {fb w : Nat → Int32}
/-- and, or: the right side only if the left does not tell -/
theorem co_ao {nd s s1 s2 : Nat} {cd : Int32} {st : Int64} {p q : Option Int64} (hcd : (cd = 261 ∧ st = 0) ∨ (cd = 260 ∧ st = 1)) (hnc : nc ≤ 400) (h1 : CO nb nc fb w J A nd s s1 p) (h2 : CO nb nc fb w J A nd (s1 + 1) s2 q) (l1 : s ≤ s1) (l2 : s1 + 1 ≤ s2) (d1 : 1 ≤ nd) (hw : w (2 * s1) = cd) (hw1 : w (2 * s1 + 1) = nI (2 * s2)) : CO nb nc fb w J A nd s s2 (p.bind fun x => if lg_cmp x st = 0 then some x else q) := by
  intro f e H I B g1 g2 g3 g4 g5
  obtain ⟨a1, a2⟩ := h1 f e H I B (by omega) g2 (by omega) g4 (by omega)
  cases p with
  | none =>
    obtain ⟨I', B', c1, c2⟩ := a2 rfl
    exact ⟨fun x hx => (by cases hx), fun _ => ⟨I', B', c1, c2⟩⟩
  | some x =>
    obtain ⟨f1, I1, B1, c0, c1, c2, c3, c4, c5, c6⟩ := a1 x rfl
    obtain ⟨f1, rfl⟩ : ∃ g, f1 = g + 1 := ⟨f1 - 1, by omega⟩
    obtain ⟨k1, k2, k3, k4, k5, k6⟩ := wk_h (f := f1) (s := s1) hnc (show 2 * (s1 + 1) ≤ e by omega) g2
    have E : lX0_works_20 nb nc fb w f (nI e) (nI (2 * s)) I J A B = (if lg_cmp x st = 0 then ((sX0_push x (upd I1 98 (nI H)) J A B1).bind fun a => lX0_works_20 nb nc fb w f1 (nI e) (nI (2 * s2)) a.1 J A a.2) else lX0_works_20 nb nc fb w f1 (nI e) (nI (2 * (s1 + 1))) (upd I1 98 (nI H)) J A B1) := by
      have jp : (if nI (2 * s1) < nI (2 * s2) - 2 then nI (2 * s2) - 2 else nI (2 * s1)) + 2 = nI (2 * s2) := by
        rw [show (2 : Int32) = nI 2 from rfl, pk_sub (by omega)]
        by_cases y : s2 = s1 + 1
        · rw [if_neg (by rw [nn_lt (by omega) (by omega)]; omega), nI_add, y]
          rfl
        · rw [if_pos (by rw [nn_lt (by omega) (by omega)]; omega), nI_add, show 2 * s2 - 2 + 2 = 2 * s2 by omega]
      rw [c1, lX0_works_20, if_neg k1, ck, if_pos k2]
      dsimp only [gv]
      rw [ck, if_pos k3, k4, k5, hw, hw1, po_1 c2 (by omega)]
      dsimp only [Option.bind_some]
      rw [c4, jp, k6]
      rcases hcd with ⟨rfl, rfl⟩ | ⟨rfl, rfl⟩
      · rw [if_neg (show ¬ (261 : Int32) = 0 by decide), if_neg (show ¬ (261 : Int32) = 1 by decide), if_neg (show ¬ (261 : Int32) = 2 by decide), if_pos rfl, if_neg (show ¬ (261 : Int32) = 260 by decide)]
        rfl
      · rw [if_neg (show ¬ (260 : Int32) = 0 by decide), if_neg (show ¬ (260 : Int32) = 1 by decide), if_neg (show ¬ (260 : Int32) = 2 by decide), if_neg (show ¬ (260 : Int32) = 261 by decide), if_pos (show (260 : Int32) = 260 from rfl), if_pos (show (260 : Int32) = 260 from rfl)]
        rfl
    by_cases y : lg_cmp x st = 0
    · rw [if_pos y, pu_1 (upd_s _ _ _) (by omega)] at E
      dsimp only [Option.bind_some] at E
      refine ⟨fun u hu => ?_, fun hu => ?_⟩
      · have hu : (if lg_cmp x st = 0 then some x else q) = some u := hu
        rw [if_pos y] at hu
        cases hu
        refine ⟨f1, _, _, by omega, E, upd_s _ _ _, fun q hq => by rw [upd_n _ _ hq, upd_n _ _ hq, c3 q hq], ?_, fun i hi => ?_, fun q hq => (va_up_ne _ _ hq).trans (c6 q hq)⟩
        · rw [va_up_self]; simp [vp_updL]
        · rw [va_up_self]
          have : ¬ i = H := by omega
          simp [vp_updL, this]
          exact c5 i hi
      · have hu : (if lg_cmp x st = 0 then some x else q) = none := hu
        rw [if_pos y] at hu
        cases hu
    · rw [if_neg y] at E
      obtain ⟨b1, b2⟩ := h2 f1 e H (upd I1 98 (nI H)) B1 g1 g2 (by omega) (upd_s _ _ _) g5
      refine ⟨fun u hu => ?_, fun hu => ?_⟩
      · have hu : (if lg_cmp x st = 0 then some x else q) = some u := hu
        rw [if_neg y] at hu
        obtain ⟨f2, I2, B2, e0, e1, e2, e3, e4, e5, e6⟩ := b1 u hu
        exact ⟨f2, I2, B2, by omega, E.trans e1, e2, fun q hq => by rw [e3 q hq, upd_n _ _ hq, c3 q hq], e4, fun i hi => (e5 i hi).trans (c5 i hi), fun q hq => (e6 q hq).trans (c6 q hq)⟩
      · have hu : (if lg_cmp x st = 0 then some x else q) = none := hu
        rw [if_neg y] at hu
        obtain ⟨I', B', e1, e2, e3⟩ := b2 hu
        exact ⟨I', B', E.trans e1, fun q hq => by rw [e2 q hq, upd_n _ _ hq, c3 q hq], fun q hq => (e3 q hq).trans (c6 q hq)⟩
end Z5
