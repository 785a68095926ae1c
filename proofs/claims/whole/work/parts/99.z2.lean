/-- what a text is asked with: ten numbers, four flags -/
def EA (a : Nat → Int32) (v : Nat → Int64) (g : Nat → Bool) : Prop := (∀ i, i < 10 → (a i).toInt64 = v i) ∧ ∀ j, j < 4 → a (10 + j) = if g j = true then 1 else 0
/-- the room on the pile that a thing wants -/
def ndK (K d : Nat) : Nat := if K = 0 then 1 + 2 * d else if K = 1 then 2 + 2 * d else if K = 2 then 3 + 2 * d else 22
/-- the class works the orders s..s' and comes to den -/
def CO (nb nc : Nat) (fb w : Nat → Int32) (J : Nat → Int64) (A : Nat → Nat → Int32) (nd s s' : Nat) (den : Option Int64) : Prop := ∀ (f e H : Nat) (I : Nat → Int32) (B : Nat → Nat → Int64), 2 * s' ≤ e → e ≤ nc → s' < s + f → I 98 = nI H → H + nd ≤ 64 → (∀ x, den = some x → ∃ f' I' B', f + s ≤ f' + s' ∧ lX0_works_20 nb nc fb w f (nI e) (nI (2 * s)) I J A B = lX0_works_20 nb nc fb w f' (nI e) (nI (2 * s')) I' J A B' ∧ I' 98 = nI (H + 1) ∧ (∀ q, ¬ q = 98 → I' q = I q) ∧ B' 97 H = x ∧ (∀ i, i < H → B' 97 i = B 97 i) ∧ ∀ b, ¬ b = 97 → B' b = B b) ∧ (den = none → ∃ I' B', lX0_works_20 nb nc fb w f (nI e) (nI (2 * s)) I J A B = some (.inl (I', B')) ∧ (∀ q, ¬ q = 98 → I' q = I q) ∧ ∀ b, ¬ b = 97 → B' b = B b)
section Z2
variable {I : Nat → Int32} {J : Nat → Int64} {A : Nat → Nat → Int32} {B : Nat → Nat → Int64} {nb nc : Nat} {fb w : Nat → Int32}
theorem pu_1 {H : Nat} {x : Int64} (h : I 98 = nI H) (hH : H < 64) : sX0_push x I J A B = some (upd I 98 (nI (H + 1)), va_up B 97 (vp_updL (B 97) H x)) := by
  unfold sX0_push
  rw [h, if_neg (show ¬ 64 ≤ nI H by rw [show (64 : Int32) = nI 64 from rfl, nn_le (by decide) (by omega)]; omega), ck, if_pos (inB_n hH (by decide)), ix_n (by omega), nI_1]
  rfl
theorem po_1 {H : Nat} (h : I 98 = nI (H + 1)) (hH : H < 64) : sX0_pop I J A B = some (B 97 H, upd I 98 (nI H)) := by
  unfold sX0_pop
  rw [h, if_neg (show ¬ nI (H + 1) = 0 by rw [show (0 : Int32) = nI 0 from rfl, nI_eq (by omega) (by decide)]; omega), show nI (H + 1) - 1 = nI H by rw [show (1 : Int32) = nI 1 from rfl, pk_sub (by omega), Nat.add_sub_cancel]]
  dsimp only [gv]
  rw [upd_s, ck, if_pos (inB_n hH (by decide)), ix_n (by omega)]
/-- an order that pushes -/
theorem co_leaf {s nd : Nat} {x : Int64} (hnc : nc ≤ 400) (hnd : 1 ≤ nd) (hx : ∀ (f e : Nat) (I : Nat → Int32) (B : Nat → Nat → Int64), 2 * (s + 1) ≤ e → e ≤ nc → lX0_works_20 nb nc fb w (f + 1) (nI e) (nI (2 * s)) I J A B = (sX0_push x I J A B).bind fun a => lX0_works_20 nb nc fb w f (nI e) (nI (2 * (s + 1))) a.1 J A a.2) : CO nb nc fb w J A nd s (s + 1) (some x) := by
  intro f e H I B h1 h2 h3 h4 h5
  refine ⟨fun y hy => ?_, fun h => by cases h⟩
  cases hy
  obtain ⟨f, rfl⟩ : ∃ g, f = g + 1 := ⟨f - 1, by omega⟩
  rw [hx f e I B h1 h2, pu_1 h4 (by omega)]
  refine ⟨f, upd I 98 (nI (H + 1)), va_up B 97 (vp_updL (B 97) H x), by omega, rfl, upd_s _ _ _, fun q hq => upd_n _ _ hq, ?_, fun i hi => ?_, fun b hb => va_up_ne _ _ hb⟩
  · rw [va_up_self]; simp [vp_updL]
  · rw [va_up_self]; simp [vp_updL]; intro h; omega
theorem wk_h {f e s : Nat} (hnc : nc ≤ 400) (h1 : 2 * (s + 1) ≤ e) (h2 : e ≤ nc) : (¬ nI e ≤ nI (2 * s) + 1) ∧ inB (nI (2 * s)) nc = true ∧ inB (nI (2 * s) + 1) nc = true ∧ ix (nI (2 * s)) = 2 * s ∧ ix (nI (2 * s) + 1) = 2 * s + 1 ∧ nI (2 * s) + 2 = nI (2 * (s + 1)) := by
  rw [nI_1, show (2 : Int32) = nI 2 from rfl, nI_add]
  exact ⟨by rw [nn_le (by omega) (by omega)]; omega, inB_n (by omega) (by omega), inB_n (by omega) (by omega), ix_n (by omega), ix_n (by omega), rfl⟩
theorem co_num {s nd : Nat} (hnc : nc ≤ 400) (hnd : 1 ≤ nd) (hw : w (2 * s) = 0) : CO nb nc fb w J A nd s (s + 1) (some ((w (2 * s + 1)).toInt64)) := by
  refine co_leaf hnc hnd (fun f e I B h1 h2 => ?_)
  obtain ⟨k1, k2, k3, k4, k5, k6⟩ := wk_h (f := f) (s := s) hnc h1 h2
  rw [lX0_works_20, if_neg k1, ck, if_pos k2]
  dsimp only [gv]
  rw [ck, if_pos k3, k4, k5, hw, if_pos rfl, k6]
theorem co_val {s nd q : Nat} {v : Nat → Int64} {g : Nat → Bool} (hnc : nc ≤ 400) (hnd : 1 ≤ nd) (hq : q < 14) (hw : w (2 * s) = 1) (hw1 : w (2 * s + 1) = nI (263 + q)) : CO nb nc fb w J A nd s (s + 1) (some ((A 96 q).toInt64)) := by
  refine co_leaf hnc hnd (fun f e I B h1 h2 => ?_)
  obtain ⟨k1, k2, k3, k4, k5, k6⟩ := wk_h (f := f) (s := s) hnc h1 h2
  rw [lX0_works_20, if_neg k1, ck, if_pos k2]
  dsimp only [gv]
  rw [ck, if_pos k3, k4, k5, hw, if_neg (show ¬ (1 : Int32) = 0 by decide), if_pos rfl, hw1, k6]
  unfold sX0_valueOf
  dsimp only [gv]
  rw [show nI (263 + q) - 263 = nI q by rw [show (263 : Int32) = nI 263 from rfl, pk_sub (by omega), Nat.add_sub_cancel_left], if_neg (show ¬ nI q < 0 by rw [show (0 : Int32) = nI 0 from rfl, nn_lt (by omega) (by decide)]; omega), if_neg (show ¬ 14 ≤ nI q by rw [show (14 : Int32) = nI 14 from rfl, nn_le (by decide) (by omega)]; omega), ck, if_pos (inB_n hq (by decide)), ix_n (by omega)]
  rfl
end Z2
