/-- two values joined by a sign -/
def vJ (b : Nat) (x y : Int64) : Int64 := if b = 42 then x * y else if b = 43 then x + y else if b = 45 then x - y else if b = 47 then x / y else if b = 60 then (if 0 ≤ lg_cmp x y then 0 else 1) else if b = 62 then (if lg_cmp x y ≤ 0 then 0 else 1) else if lg_cmp x y = 0 then 1 else 0
def bJ (r : Int64) : Option Int64 := if 0 < lg_cmp r 1000000000 then none else if lg_cmp r (-1000000000) < 0 then none else some r
def jJ (b : Nat) (x y : Int64) : Option Int64 := if b = 47 ∧ lg_cmp y 0 = 0 then none else bJ (vJ b x y)
def dJ (b : Nat) (p q : Option Int64) : Option Int64 := p.bind fun x => q.bind fun y => jJ b x y
section Z3
variable {I : Nat → Int32} {J : Nat → Int64} {A : Nat → Nat → Int32} {B : Nat → Nat → Int64} {nb nc : Nat} {fb w : Nat → Int32}
theorem jo_1 {b H : Nat} {x y : Int64} (hb : b = 42 ∨ b = 43 ∨ b = 45 ∨ b = 47 ∨ b = 60 ∨ b = 61 ∨ b = 62) (h : I 98 = nI (H + 2)) (hH : H + 2 ≤ 64) (hx : B 97 H = x) (hy : B 97 (H + 1) = y) : ∃ r I' B', sX0_joins (nI b) I J A B = some (r, I', B') ∧ (∀ q, ¬ q = 98 → I' q = I q) ∧ (∀ q, ¬ q = 97 → B' q = B q) ∧ ((r = 0 ∧ jJ b x y = none) ∨ (r = 1 ∧ ∃ v, jJ b x y = some v ∧ I' 98 = nI (H + 1) ∧ B' 97 H = v ∧ ∀ i, i < H → B' 97 i = B 97 i)) := by
  unfold sX0_joins
  rw [po_1 (H := H + 1) h (by omega)]
  dsimp only [gv, Option.bind_some]
  rw [po_1 (H := H) (upd_s _ _ _) (by omega), hx, hy]
  dsimp only [Option.bind_some]
  have e98 : (upd (upd I 98 (nI (H + 1))) 98 (nI H)) 98 = nI H := upd_s _ _ _
  have key : ∀ r : Int64, ¬ (b = 47 ∧ lg_cmp y 0 = 0) → r = vJ b x y → ∃ r' I' B', ((sX0_push r (upd (upd I 98 (nI (H + 1))) 98 (nI H)) J A B).bind fun a => some (if 0 < lg_cmp r 1000000000 then (0 : Int32) else if lg_cmp r (-1000000000) < 0 then 0 else 1, a.1, a.2)) = some (r', I', B') ∧ (∀ q, ¬ q = 98 → I' q = I q) ∧ (∀ q, ¬ q = 97 → B' q = B q) ∧ ((r' = 0 ∧ jJ b x y = none) ∨ (r' = 1 ∧ ∃ v, jJ b x y = some v ∧ I' 98 = nI (H + 1) ∧ B' 97 H = v ∧ ∀ i, i < H → B' 97 i = B 97 i)) := by
    intro r hn hr
    rw [pu_1 e98 (by omega)]
    refine ⟨_, upd (upd (upd I 98 (nI (H + 1))) 98 (nI H)) 98 (nI (H + 1)), va_up B 97 (vp_updL (B 97) H r), rfl, fun q hq => by rw [upd_n _ _ hq, upd_n _ _ hq, upd_n _ _ hq], fun q hq => va_up_ne _ _ hq, ?_⟩
    unfold jJ bJ
    rw [if_neg hn, ← hr]
    by_cases c1 : 0 < lg_cmp r 1000000000
    · rw [if_pos c1, if_pos c1]
      exact Or.inl ⟨rfl, rfl⟩
    · rw [if_neg c1, if_neg c1]
      by_cases c2 : lg_cmp r (-1000000000) < 0
      · rw [if_pos c2, if_pos c2]
        exact Or.inl ⟨rfl, rfl⟩
      · rw [if_neg c2, if_neg c2]
        refine Or.inr ⟨rfl, r, rfl, upd_s _ _ _, ?_, fun i hi => ?_⟩
        · rw [va_up_self]; simp [vp_updL]
        · rw [va_up_self]; simp [vp_updL]; intro h; omega
  rcases hb with rfl | rfl | rfl | rfl | rfl | rfl | rfl
  · rw [if_neg (show ¬ nI 42 = 47 by decide), if_pos (show nI 42 = 42 from rfl)]
    exact key _ (by omega) rfl
  · rw [if_neg (show ¬ nI 43 = 47 by decide), if_neg (show ¬ nI 43 = 42 by decide), if_pos (show nI 43 = 43 from rfl)]
    exact key _ (by omega) rfl
  · rw [if_neg (show ¬ nI 45 = 47 by decide), if_neg (show ¬ nI 45 = 42 by decide), if_neg (show ¬ nI 45 = 43 by decide), if_pos (show nI 45 = 45 from rfl)]
    exact key _ (by omega) rfl
  · rw [if_pos (show nI 47 = 47 from rfl)]
    by_cases c : lg_cmp y 0 = 0
    · rw [if_pos c]
      exact ⟨0, _, B, rfl, fun q hq => by rw [upd_n _ _ hq, upd_n _ _ hq], fun _ _ => rfl, Or.inl ⟨rfl, by unfold jJ; rw [if_pos ⟨rfl, c⟩]⟩⟩
    · rw [if_neg c, if_neg (show ¬ nI 47 = 42 by decide), if_neg (show ¬ nI 47 = 43 by decide), if_neg (show ¬ nI 47 = 45 by decide), if_pos (show nI 47 = 47 from rfl), if_neg c, ck, if_pos (show nzL y = true from decide_eq_true (fun q => c (by rw [q]; exact lcmp_self 0)))]
      exact key _ (fun h => c h.2) rfl
  · rw [if_neg (show ¬ nI 60 = 47 by decide), if_neg (show ¬ nI 60 = 42 by decide), if_neg (show ¬ nI 60 = 43 by decide), if_neg (show ¬ nI 60 = 45 by decide), if_neg (show ¬ nI 60 = 47 by decide), if_pos (show nI 60 = 60 from rfl)]
    exact key _ (by omega) rfl
  · rw [if_neg (show ¬ nI 61 = 47 by decide), if_neg (show ¬ nI 61 = 42 by decide), if_neg (show ¬ nI 61 = 43 by decide), if_neg (show ¬ nI 61 = 45 by decide), if_neg (show ¬ nI 61 = 47 by decide), if_neg (show ¬ nI 61 = 60 by decide), if_neg (show ¬ nI 61 = 62 by decide)]
    exact key _ (by omega) rfl
  · rw [if_neg (show ¬ nI 62 = 47 by decide), if_neg (show ¬ nI 62 = 42 by decide), if_neg (show ¬ nI 62 = 43 by decide), if_neg (show ¬ nI 62 = 45 by decide), if_neg (show ¬ nI 62 = 47 by decide), if_neg (show ¬ nI 62 = 60 by decide), if_pos (show nI 62 = 62 from rfl)]
    exact key _ (by omega) rfl
end Z3
