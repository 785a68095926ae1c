/-- what is asked of P, that it be told of tokens k..k' and orders s..s' of the words w: kinds 0 part, 1 term, 2 sum, 3 positive test, 4 plain, 5 both, 6 test; d bounds the brackets -/
def TRQ (tk vl w : Nat → Int32) (P : Nat → Nat → Nat → Nat → Nat → Nat → Prop) : Prop := (∀ d k s : Nat, tk k = 50 → w (2 * s) = 0 → w (2 * s + 1) = vl k → P 0 d k s (k + 1) (s + 1)) ∧ (∀ d k s x : Nat, 12 ≤ x → x ≤ 21 → tk k = nI x → w (2 * s) = 1 → w (2 * s + 1) = nI (251 + x) → P 0 d k s (k + 1) (s + 1)) ∧ (∀ d k s k' s' : Nat, tk k = nI 191 → P 2 d (k + 1) s k' s' → tk k' = nI 193 → P 0 (d + 1) k s (k' + 1) s') ∧ (∀ d k s k' s' : Nat, P 0 d k s k' s' → P 1 d k s k' s') ∧ (∀ d k s k1 s1 k' s' b : Nat, P 1 d k s k1 s1 → b = 42 ∨ b = 47 → tk k1 = nI (100 + b) → P 0 d (k1 + 1) s1 k' s' → w (2 * s') = nI b → P 1 d k s k' (s' + 1)) ∧ (∀ d k s k' s' : Nat, P 1 d k s k' s' → ¬ tk k' = nI 142 → ¬ tk k' = nI 147 → P 2 d k s k' s') ∧ (∀ d k s k1 s1 k' s' b : Nat, P 2 d k s k1 s1 → b = 43 ∨ b = 45 → tk k1 = nI (100 + b) → P 1 d (k1 + 1) s1 k' s' → ¬ tk k' = nI 142 → ¬ tk k' = nI 147 → w (2 * s') = nI b → P 2 d k s k' (s' + 1)) ∧ (∀ d k s x : Nat, 8 ≤ x → x ≤ 11 → tk k = nI x → w (2 * s) = 1 → w (2 * s + 1) = nI (265 + x) → P 3 d k s (k + 1) (s + 1)) ∧ (∀ d k s k' s' : Nat, tk k = nI 140 → P 6 d (k + 1) s k' s' → tk k' = nI 141 → P 3 (d + 1) k s (k' + 1) s') ∧ (∀ d k s e k1 s1 e' k' s' b : Nat, e ≤ 9 → e' ≤ 9 → ¬ tk k = nI 140 → (∀ x, 8 ≤ x → x ≤ 11 → ¬ tk k = nI x) → P 2 e k s k1 s1 → b = 60 ∨ b = 61 ∨ b = 62 → tk k1 = nI (100 + b) → P 2 e' (k1 + 1) s1 k' s' → ¬ tk k' = nI 143 → ¬ tk k' = nI 145 → w (2 * s') = nI b → P 3 d k s k' (s' + 1)) ∧ (∀ d k s k' s' j : Nat, (∀ i, i < j → tk (k + i) = 7) → ¬ tk (k + j) = 7 → j % 2 = 0 → P 3 d (k + j) s k' s' → P 4 d k s k' s') ∧ (∀ d k s k' s' j : Nat, (∀ i, i < j → tk (k + i) = 7) → ¬ tk (k + j) = 7 → j % 2 = 1 → P 3 d (k + j) s k' s' → w (2 * s') = 2 → P 4 d k s k' (s' + 1)) ∧ (∀ d k s k' s' : Nat, P 4 d k s k' s' → P 5 d k s k' s') ∧ (∀ d k s k1 s1 k' s' : Nat, P 5 d k s k1 s1 → tk k1 = 6 → w (2 * s1) = 261 → P 4 d (k1 + 1) (s1 + 1) k' s' → w (2 * s1 + 1) = nI (2 * s') → P 5 d k s k' s') ∧ (∀ d k s k' s' : Nat, P 5 d k s k' s' → ¬ tk k' = 6 → P 6 d k s k' s') ∧ (∀ d k s k1 s1 k' s' : Nat, P 6 d k s k1 s1 → tk k1 = 5 → w (2 * s1) = 260 → P 5 d (k1 + 1) (s1 + 1) k' s' → ¬ tk k' = 6 → w (2 * s1 + 1) = nI (2 * s') → P 6 d k s k' s')
/-- tokens k..k' are such a thing, and the orders s..s' of the words w are its orders -/
def TRE (tk vl w : Nat → Int32) (K d k s k' s' : Nat) : Prop := ∀ P, TRQ tk vl w P → P K d k s k' s'
section X5a
variable {tk vl w : Nat → Int32}
theorem tr_num {d k s : Nat} (h1 : tk k = 50) (h2 : w (2 * s) = 0) (h3 : w (2 * s + 1) = vl k) : TRE tk vl w 0 d k s (k + 1) (s + 1) := fun P h => h.1 _ _ _ h1 h2 h3
theorem tr_val {d k s x : Nat} (h1 : 12 ≤ x) (h2 : x ≤ 21) (h3 : tk k = nI x) (h4 : w (2 * s) = 1) (h5 : w (2 * s + 1) = nI (251 + x)) : TRE tk vl w 0 d k s (k + 1) (s + 1) := fun P h => h.2.1 _ _ _ _ h1 h2 h3 h4 h5
theorem tr_brs {d k s k' s' : Nat} (h1 : tk k = nI 191) (h2 : TRE tk vl w 2 d (k + 1) s k' s') (h3 : tk k' = nI 193) : TRE tk vl w 0 (d + 1) k s (k' + 1) s' := fun P h => h.2.2.1 _ _ _ _ _ h1 (h2 P h) h3
theorem tr_tm0 {d k s k' s' : Nat} (h1 : TRE tk vl w 0 d k s k' s') : TRE tk vl w 1 d k s k' s' := fun P h => h.2.2.2.1 _ _ _ _ _ (h1 P h)
theorem tr_tm1 {d k s k1 s1 k' s' b : Nat} (h1 : TRE tk vl w 1 d k s k1 s1) (h2 : b = 42 ∨ b = 47) (h3 : tk k1 = nI (100 + b)) (h4 : TRE tk vl w 0 d (k1 + 1) s1 k' s') (h5 : w (2 * s') = nI b) : TRE tk vl w 1 d k s k' (s' + 1) := fun P h => h.2.2.2.2.1 _ _ _ _ _ _ _ _ (h1 P h) h2 h3 (h4 P h) h5
theorem tr_sm0 {d k s k' s' : Nat} (h1 : TRE tk vl w 1 d k s k' s') (h2 : ¬ tk k' = nI 142) (h3 : ¬ tk k' = nI 147) : TRE tk vl w 2 d k s k' s' := fun P h => h.2.2.2.2.2.1 _ _ _ _ _ (h1 P h) h2 h3
theorem tr_sm1 {d k s k1 s1 k' s' b : Nat} (h1 : TRE tk vl w 2 d k s k1 s1) (h2 : b = 43 ∨ b = 45) (h3 : tk k1 = nI (100 + b)) (h4 : TRE tk vl w 1 d (k1 + 1) s1 k' s') (h5 : ¬ tk k' = nI 142) (h6 : ¬ tk k' = nI 147) (h7 : w (2 * s') = nI b) : TRE tk vl w 2 d k s k' (s' + 1) := fun P h => h.2.2.2.2.2.2.1 _ _ _ _ _ _ _ _ (h1 P h) h2 h3 (h4 P h) h5 h6 h7
theorem tr_flg {d k s x : Nat} (h1 : 8 ≤ x) (h2 : x ≤ 11) (h3 : tk k = nI x) (h4 : w (2 * s) = 1) (h5 : w (2 * s + 1) = nI (265 + x)) : TRE tk vl w 3 d k s (k + 1) (s + 1) := fun P h => h.2.2.2.2.2.2.2.1 _ _ _ _ h1 h2 h3 h4 h5
theorem tr_brt {d k s k' s' : Nat} (h1 : tk k = nI 140) (h2 : TRE tk vl w 6 d (k + 1) s k' s') (h3 : tk k' = nI 141) : TRE tk vl w 3 (d + 1) k s (k' + 1) s' := fun P h => h.2.2.2.2.2.2.2.2.1 _ _ _ _ _ h1 (h2 P h) h3
theorem tr_cmp {d k s e k1 s1 e' k' s' b : Nat} (h1 : e ≤ 9) (h2 : e' ≤ 9) (h3 : ¬ tk k = nI 140) (h4 : (∀ x, 8 ≤ x → x ≤ 11 → ¬ tk k = nI x)) (h5 : TRE tk vl w 2 e k s k1 s1) (h6 : b = 60 ∨ b = 61 ∨ b = 62) (h7 : tk k1 = nI (100 + b)) (h8 : TRE tk vl w 2 e' (k1 + 1) s1 k' s') (h9 : ¬ tk k' = nI 143) (h10 : ¬ tk k' = nI 145) (h11 : w (2 * s') = nI b) : TRE tk vl w 3 d k s k' (s' + 1) := fun P h => h.2.2.2.2.2.2.2.2.2.1 _ _ _ _ _ _ _ _ _ _ h1 h2 h3 h4 (h5 P h) h6 h7 (h8 P h) h9 h10 h11
theorem tr_nt0 {d k s k' s' j : Nat} (h1 : (∀ i, i < j → tk (k + i) = 7)) (h2 : ¬ tk (k + j) = 7) (h3 : j % 2 = 0) (h4 : TRE tk vl w 3 d (k + j) s k' s') : TRE tk vl w 4 d k s k' s' := fun P h => h.2.2.2.2.2.2.2.2.2.2.1 _ _ _ _ _ _ h1 h2 h3 (h4 P h)
theorem tr_nt1 {d k s k' s' j : Nat} (h1 : (∀ i, i < j → tk (k + i) = 7)) (h2 : ¬ tk (k + j) = 7) (h3 : j % 2 = 1) (h4 : TRE tk vl w 3 d (k + j) s k' s') (h5 : w (2 * s') = 2) : TRE tk vl w 4 d k s k' (s' + 1) := fun P h => h.2.2.2.2.2.2.2.2.2.2.2.1 _ _ _ _ _ _ h1 h2 h3 (h4 P h) h5
theorem tr_bo0 {d k s k' s' : Nat} (h1 : TRE tk vl w 4 d k s k' s') : TRE tk vl w 5 d k s k' s' := fun P h => h.2.2.2.2.2.2.2.2.2.2.2.2.1 _ _ _ _ _ (h1 P h)
theorem tr_bo1 {d k s k1 s1 k' s' : Nat} (h1 : TRE tk vl w 5 d k s k1 s1) (h2 : tk k1 = 6) (h3 : w (2 * s1) = 261) (h4 : TRE tk vl w 4 d (k1 + 1) (s1 + 1) k' s') (h5 : w (2 * s1 + 1) = nI (2 * s')) : TRE tk vl w 5 d k s k' s' := fun P h => h.2.2.2.2.2.2.2.2.2.2.2.2.2.1 _ _ _ _ _ _ _ (h1 P h) h2 h3 (h4 P h) h5
theorem tr_te0 {d k s k' s' : Nat} (h1 : TRE tk vl w 5 d k s k' s') (h2 : ¬ tk k' = 6) : TRE tk vl w 6 d k s k' s' := fun P h => h.2.2.2.2.2.2.2.2.2.2.2.2.2.2.1 _ _ _ _ _ (h1 P h) h2
theorem tr_te1 {d k s k1 s1 k' s' : Nat} (h1 : TRE tk vl w 6 d k s k1 s1) (h2 : tk k1 = 5) (h3 : w (2 * s1) = 260) (h4 : TRE tk vl w 5 d (k1 + 1) (s1 + 1) k' s') (h5 : ¬ tk k' = 6) (h6 : w (2 * s1 + 1) = nI (2 * s')) : TRE tk vl w 6 d k s k' s' := fun P h => h.2.2.2.2.2.2.2.2.2.2.2.2.2.2.2 _ _ _ _ _ _ _ (h1 P h) h2 h3 (h4 P h) h5 h6
end X5a
/-- a token's code and value, and the class's token -/
def KD (c v t : Int32) : Prop := (∃ x, 1 ≤ x ∧ x ≤ 7 ∧ c = nI x ∧ t = nI (255 + x)) ∨ (∃ x, 8 ≤ x ∧ x ≤ 11 ∧ c = nI x ∧ t = nI (265 + x)) ∨ (∃ x, 12 ≤ x ∧ x ≤ 21 ∧ c = nI x ∧ t = nI (251 + x)) ∨ (c = 50 ∧ v ≤ 100000 ∧ t = -2) ∨ (∃ b, b < 256 ∧ c = nI (100 + b) ∧ t = nI b) ∨ (t = -3 ∧ (c = 0 ∨ (c = 50 ∧ ¬ v ≤ 100000))) ∨ (t = -1 ∧ c = 0)
theorem kd_w : ∀ x, x < 22 → (1 ≤ x → x ≤ 7 → cT (nI x) 0 = nI (255 + x)) ∧ (8 ≤ x → x ≤ 11 → cT (nI x) 0 = nI (265 + x)) ∧ (12 ≤ x → cT (nI x) 0 = nI (251 + x)) := by decide +kernel
section X5
variable {I I1 : Nat → Int32} {J J1 : Nat → Int64} {A A1 : Nat → Nat → Int32} {B B1 : Nat → Nat → Int64} {tp : Nat → Nat} {z n : Nat} {tk vl : Nat → Int32}
theorem kd_t (ht : TKS tp z n tk vl) {k : Nat} (hk : k ≤ n) (h6 : ∀ i, i < z → tp i < 256) (h : AT tp z tk vl k I) : KD (tk k) (vl k) (I 84) ∧ (k = n → I 84 = -1 ∧ tk k = 0) ∧ (k < n → ¬ I 84 = -1) := by
  obtain ⟨h1, h2, h3, h4⟩ := ht
  by_cases w : k = n
  · subst w
    rcases h.2.2 with ⟨q, -⟩ | ⟨-, -, q⟩
    · omega
    · exact ⟨Or.inr (Or.inr (Or.inr (Or.inr (Or.inr (Or.inr ⟨q, h4⟩))))), fun _ => ⟨q, h4⟩, fun _ => by omega⟩
  · obtain ⟨a1, a2⟩ := h3 k (by omega)
    rcases h.2.2 with ⟨-, -, q, -⟩ | ⟨q, -⟩
    · rw [q]
      suffices hs : KD (tk k) (vl k) (cT (tk k) (vl k)) ∧ ¬ cT (tk k) (vl k) = -1 from ⟨hs.1, fun _ => by omega, fun _ => hs.2⟩
      rcases a2 with ⟨-, x, wx, c1, c2⟩ | ⟨-, -, c1, c2⟩ | ⟨-, -, c1, c2⟩
      · have hx : x ≤ 21 := by rcases wx with ⟨-, w2, -⟩ | ⟨w1, -⟩ <;> omega
        rw [c1, c2]
        obtain ⟨k1, k2, k3⟩ := kd_w x (by omega)
        by_cases x0 : x = 0
        · subst x0
          exact ⟨Or.inr (Or.inr (Or.inr (Or.inr (Or.inr (Or.inl ⟨by decide, Or.inl rfl⟩))))), by decide⟩
        · by_cases x1 : x ≤ 7
          · rw [k1 (by omega) x1]
            exact ⟨Or.inl ⟨x, by omega, x1, rfl, rfl⟩, nI_m1 (by omega)⟩
          · by_cases x2 : x ≤ 11
            · rw [k2 (by omega) x2]
              exact ⟨Or.inr (Or.inl ⟨x, by omega, x2, rfl, rfl⟩), nI_m1 (by omega)⟩
            · rw [k3 (by omega)]
              exact ⟨Or.inr (Or.inr (Or.inl ⟨x, by omega, hx, rfl, rfl⟩)), nI_m1 (by omega)⟩
      · rw [c1]
        unfold cT
        rw [if_pos rfl]
        by_cases y : vl k ≤ 100000
        · rw [if_pos y]
          exact ⟨Or.inr (Or.inr (Or.inr (Or.inl ⟨rfl, y, rfl⟩))), by decide⟩
        · rw [if_neg y]
          exact ⟨Or.inr (Or.inr (Or.inr (Or.inr (Or.inr (Or.inl ⟨rfl, Or.inr ⟨rfl, y⟩⟩))))), by decide⟩
      · have hb := h6 _ a1
        rw [c1, c2, ct_b _ hb]
        exact ⟨Or.inr (Or.inr (Or.inr (Or.inr (Or.inl ⟨_, hb, rfl, rfl⟩)))), nI_m1 (by omega)⟩
    · omega
end X5
