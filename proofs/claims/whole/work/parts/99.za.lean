def RRk (tk vl : Nat → Int32) (N ba : Nat) (J : Nat → Int64) (A : Nat → Nat → Int32) (B : Nat → Nat → Int64) (K d k k' : Nat) (den : Option Int64) : Prop := match K with
  | 0 => RO0 tk vl N ba J A B d k k' den
  | 1 => RO1 tk vl N ba J A B d k k' den
  | 2 => RO2 tk vl N ba J A B d k k' den
  | 3 => RO3 tk vl N ba J A B d k k' den
  | 4 => RO4 tk vl N ba J A B d k k' den
  | 5 => RO5 tk vl N ba J A B d k k' den
  | _ => RO6 tk vl N ba J A B d k k' den
/-- it fits an int -/
def ISs (den : Option Int64) : Prop := ∀ x, den = some x → x.toInt32.toInt64 = x
section ZA
variable {A Ar : Nat → Nat → Int32} {Br : Nat → Nat → Int64} {nb nc : Nat} {fb w tk vl : Nat → Int32} {N ba : Nat}
theorem is_1 {a : Int32} : ISs (some a.toInt64) := fun x h => by cases h; simp
theorem is_b {x : Int64} (c1 : ¬ 0 < lg_cmp x 1000000000) (c2 : ¬ lg_cmp x (-1000000000) < 0) : x.toInt32.toInt64 = x := by
  rw [lg_cmp_gt] at c1
  rw [lg_cmp_lt] at c2
  rw [Int64.lt_iff_toInt_lt] at c1 c2
  have e1 : (1000000000 : Int64).toInt = 1000000000 := rfl
  have e2 : (-1000000000 : Int64).toInt = -1000000000 := rfl
  rw [e1] at c1
  rw [e2] at c2
  apply Int64.toInt_inj.mp
  rw [Int32.toInt_toInt64, Int64.toInt_toInt32]
  unfold Int.bmod
  dsimp only
  split <;> omega
theorem is_j {b : Nat} {p q : Option Int64} : ISs (dJ b p q) := by
  intro x h
  unfold dJ at h
  cases p with
  | none => cases h
  | some p =>
    cases q with
    | none => cases h
    | some q =>
      dsimp only [Option.bind_some] at h
      unfold jJ at h
      by_cases c : b = 47 ∧ lg_cmp q 0 = 0
      · rw [if_pos c] at h; cases h
      · rw [if_neg c] at h
        unfold bJ at h
        by_cases c1 : 0 < lg_cmp (vJ b p q) 1000000000
        · rw [if_pos c1] at h; cases h
        · rw [if_neg c1] at h
          by_cases c2 : lg_cmp (vJ b p q) (-1000000000) < 0
          · rw [if_pos c2] at h; cases h
          · rw [if_neg c2] at h
            cases h
            generalize vJ b p q = x at c1 c2 ⊢
            exact is_b c1 c2
theorem tr_q (hnc : nc ≤ 400) (lk : LK A Ar Br) : TRQ tk vl w (fun K d k s k' s' => k < k' ∧ s < s' ∧ ∃ den, (∀ J, CO nb nc fb w J A (ndK K d) s s' den) ∧ (∀ Jr, RRk tk vl N ba Jr Ar Br K d k k' den) ∧ (K ≤ 2 → ISs den)) := by
  unfold TRQ
  refine ⟨?_, ?_, ?_, ?_, ?_, ?_, ?_, ?_, ?_, ?_, ?_, ?_, ?_, ?_, ?_, ?_⟩
  · intro d k s h1 h2 h3
    refine ⟨by omega, by omega, some (vl k).toInt64, fun J => ?_, fun _ => ro_num h1, fun _ => is_1⟩
    rw [← h3]
    exact co_num hnc (by unfold ndK; simp only [if_true]; omega) h2
  · intro d k s x h1 h2 h3 h4 h5
    refine ⟨by omega, by omega, some (Br 32 (x - 12)), fun J => ?_, fun _ => ro_val h1 h2 h3, fun _ => (by rw [← lk.1 (x - 12) (by omega)]; exact is_1)⟩
    rw [← lk.1 (x - 12) (by omega)]
    exact co_val (v := fun _ => 0) (g := fun _ => true) hnc (by unfold ndK; simp only [if_true]; omega) (by omega) h4 (by rw [h5]; exact congrArg nI (by omega))
  · intro d k s k' s' h1 h2 h3
    obtain ⟨a, b, p, c, r, i⟩ := h2
    exact ⟨by omega, b, p, fun J => co_m (c J) (by show 3 + 2 * d ≤ 1 + 2 * (d + 1); omega), fun J => ro_brs h1 (r J) h3 (by omega), fun _ => i (by omega)⟩
  · intro d k s k' s' h1
    obtain ⟨a, b, p, c, r, i⟩ := h1
    exact ⟨a, b, p, fun J => co_m (c J) (by show 1 + 2 * d ≤ 2 + 2 * d; omega), fun J => ro_tm0 (r J) a, fun _ => i (by omega)⟩
  · intro d k s k1 s1 k' s' b h1 h2 h3 h4 h5
    obtain ⟨a, a', p, c, r, i⟩ := h1
    obtain ⟨b1, b2, q, c', r', i'⟩ := h4
    exact ⟨by omega, by omega, dJ b p q, fun J => co_join (by omega) hnc (c J) (c' J) (by omega) (by omega) (Nat.le_refl _) (by show 1 + 2 * d + 1 ≤ 2 + 2 * d; omega) (by show 2 ≤ 2 + 2 * d; omega) h5, fun J => ro_tm1 (r J) h2 h3 (r' J) a b1, fun _ => is_j⟩
  · intro d k s k' s' h1 h2 h3
    obtain ⟨a, b, p, c, r, i⟩ := h1
    exact ⟨a, b, p, fun J => co_m (c J) (by show 2 + 2 * d ≤ 3 + 2 * d; omega), fun J => ro_sm0 (r J) a h2 h3, fun _ => i (by omega)⟩
  · intro d k s k1 s1 k' s' b h1 h2 h3 h4 h5 h6 h7
    obtain ⟨a, a', p, c, r, i⟩ := h1
    obtain ⟨b1, b2, q, c', r', i'⟩ := h4
    exact ⟨by omega, by omega, dJ b p q, fun J => co_join (by omega) hnc (c J) (c' J) (by omega) (by omega) (Nat.le_refl _) (by show 2 + 2 * d + 1 ≤ 3 + 2 * d; omega) (by show 2 ≤ 3 + 2 * d; omega) h7, fun J => ro_sm1 (r J) h2 h3 (r' J) h5 h6 a b1, fun _ => is_j⟩
  · intro d k s x h1 h2 h3 h4 h5
    obtain ⟨l1, l2⟩ := lk.2 (x - 8) (by omega)
    refine ⟨by omega, by omega, some (Ar 33 (x - 8)).toInt64, fun J => ?_, fun _ => ro_flg h1 h2 h3 l2, fun h => absurd h (by decide)⟩
    rw [← l1]
    exact co_val (v := fun _ => 0) (g := fun _ => true) hnc (by show 1 ≤ 22; omega) (by omega) h4 (by rw [h5]; exact congrArg nI (by omega))
  · intro d k s k' s' h1 h2 h3
    obtain ⟨a, b, p, c, r, i⟩ := h2
    exact ⟨by omega, b, p, fun J => (c J), fun J => ro_brt h1 (r J) h3 (by omega), fun h => absurd h (by decide)⟩
  · intro d k s e k1 s1 e' k' s' b h1 h2 h3 h4 h5 h6 h7 h8 h9 h10 h11
    obtain ⟨a, a', p, c, r, i⟩ := h5
    obtain ⟨b1, b2, q, c', r', i'⟩ := h8
    exact ⟨by omega, by omega, dJ b p q, fun J => co_join (by omega) hnc (c J) (c' J) (by omega) (by omega) (by show 3 + 2 * e ≤ 22; omega) (by show 3 + 2 * e' + 1 ≤ 22; omega) (by show 2 ≤ 22; omega) h11, fun J => ro_cmp h1 h2 h3 h4 (r J) h6 h7 (r' J) h9 h10 a b1, fun h => absurd h (by decide)⟩
  · intro d k s k' s' j h1 h2 h3 h4
    obtain ⟨a, b, p, c, r, i⟩ := h4
    exact ⟨by omega, b, p, fun J => (c J), fun J => ro_nt h1 h2 (r J) a (Or.inl ⟨h3, rfl⟩), fun h => absurd h (by decide)⟩
  · intro d k s k' s' j h1 h2 h3 h4 h5
    obtain ⟨a, b, p, c, r, i⟩ := h4
    exact ⟨by omega, by omega, _, fun J => co_flip hnc (c J) (by omega) (by show 1 ≤ 22; omega) h5, fun J => ro_nt h1 h2 (r J) a (Or.inr ⟨h3, rfl⟩), fun h => absurd h (by decide)⟩
  · intro d k s k' s' h1
    obtain ⟨a, b, p, c, r, i⟩ := h1
    exact ⟨a, b, p, fun J => (c J), fun J => ro_bo0 (r J) a, fun h => absurd h (by decide)⟩
  · intro d k s k1 s1 k' s' h1 h2 h3 h4 h5
    obtain ⟨a, a', p, c, r, i⟩ := h1
    obtain ⟨b1, b2, q, c', r', i'⟩ := h4
    exact ⟨by omega, by omega, _, fun J => co_ao (Or.inl ⟨rfl, rfl⟩) hnc (c J) (c' J) (by omega) (by omega) (by show 1 ≤ 22; omega) h3 h5, fun J => ro_bo1 (r J) h2 (r' J) a b1, fun h => absurd h (by decide)⟩
  · intro d k s k' s' h1 h2
    obtain ⟨a, b, p, c, r, i⟩ := h1
    exact ⟨a, b, p, fun J => (c J), fun J => ro_te0 (r J) a h2, fun h => absurd h (by decide)⟩
  · intro d k s k1 s1 k' s' h1 h2 h3 h4 h5 h6
    obtain ⟨a, a', p, c, r, i⟩ := h1
    obtain ⟨b1, b2, q, c', r', i'⟩ := h4
    exact ⟨by omega, by omega, _, fun J => co_ao (Or.inr ⟨rfl, rfl⟩) hnc (c J) (c' J) (by omega) (by omega) (by show 1 ≤ 22; omega) h3 h6, fun J => ro_te1 (r J) h2 (r' J) h5 a b1, fun h => absurd h (by decide)⟩
/-- a thing of a text means one and the same to both -/
theorem tr_co {K d k s k' s' : Nat} (h : TRE tk vl w K d k s k' s') (hnc : nc ≤ 400) (lk : LK A Ar Br) : k < k' ∧ s < s' ∧ ∃ den, (∀ J, CO nb nc fb w J A (ndK K d) s s' den) ∧ (∀ Jr, RRk tk vl N ba Jr Ar Br K d k k' den) ∧ (K ≤ 2 → ISs den) := h _ (tr_q hnc lk)
end ZA
