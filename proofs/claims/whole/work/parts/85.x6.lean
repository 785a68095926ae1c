/-- what is fixed while a text is read -/
def CX (tp : Nat → Nat) (z n : Nat) (tk vl : Nat → Int32) (A1 : Nat → Nat → Int32) (a6 : Nat → Int32) : Prop := z ≤ 400 ∧ (∀ i, i < z → tp i < 256 ∧ a6 i = nI (tp i)) ∧ TKS tp z n tk vl ∧ A1 22 = tk ∧ A1 23 = vl ∧ ∀ i, i ≤ n → A1 24 i = nI (st8 tp z i)
/-- both at token k, s orders written, l leaves read -/
def SS (tp : Nat → Nat) (z n : Nat) (tk vl : Nat → Int32) (k s l : Nat) (I I1 : Nat → Int32) : Prop := k ≤ n ∧ AT tp z tk vl k I ∧ I 86 = nI l ∧ l ≤ 50 ∧ I 90 = nI (2 * s) ∧ I1 26 = nI k ∧ I1 27 = nI l ∧ I1 28 = -1
/-- what reading leaves as it was -/
def FF (I : Nat → Int32) (A : Nat → Nat → Int32) (I1 I2 : Nat → Int32) (A2 : Nat → Nat → Int32) (I3 : Nat → Int32) : Prop := (∀ x, ¬ x = 80 → ¬ x = 83 → ¬ x = 84 → ¬ x = 85 → ¬ x = 86 → ¬ x = 90 → I2 x = I x) ∧ (∀ b, ¬ b = 89 → A2 b = A b) ∧ ∀ x, ¬ x = 26 → ¬ x = 27 → ¬ x = 28 → I3 x = I1 x
/-- both have found the fault, at the same place -/
def DDp (z : Nat) (I2 I3 : Nat → Int32) : Prop := ∃ p w, p ≤ z ∧ I2 80 = nI p ∧ I3 28 = nI p ∧ I2 90 = nI w ∧ w ≤ 400
/-- what token cannot follow -/
def CLo (K : Nat) (c : Int32) : Prop := (K = 1 ∨ K = 2 → ¬ c = nI 142 ∧ ¬ c = nI 147) ∧ (K = 2 → ¬ c = nI 143 ∧ ¬ c = nI 145) ∧ (K = 5 ∨ K = 6 → ¬ c = 6) ∧ (K = 6 → ¬ c = 5)
def slk (K : Nat) : Nat := if K ≤ 3 then 5 else 4
/-- a good end -/
def GX (tp : Nat → Nat) (z n : Nat) (tk vl : Nat → Int32) (K d k s l : Nat) (A : Nat → Nat → Int32) (I2 : Nat → Int32) (A2 : Nat → Nat → Int32) (I3 : Nat → Int32) : Prop := ∃ k' s' l', SS tp z n tk vl k' s' l' I2 I3 ∧ k < k' ∧ s < s' ∧ 4 * s' + slk K + (8 * l + st8 tp z k) ≤ 4 * s + (8 * l' + st8 tp z k') ∧ (∀ i, i < 2 * s → A2 89 i = A 89 i) ∧ CLo K (tk k') ∧ ∀ w : Nat → Int32, (∀ i, 2 * s ≤ i → i < 2 * s' → w i = A2 89 i) → TRE tk vl w K d k s k' s'
/-- both readers of a thing of kind K -/
def RDS (tp : Nat → Nat) (z n : Nat) (tk vl : Nat → Int32) (J J1 : Nat → Int64) (B B1 : Nat → Nat → Int64) (A1 : Nat → Nat → Int32) (a6 : Nat → Int32) (K d : Nat) (cls : (Nat → Int32) → (Nat → Int64) → (Nat → Nat → Int32) → (Nat → Nat → Int64) → Option (Int32 × (Nat → Int32) × (Nat → Nat → Int32))) (rf : (Nat → Int32) → (Nat → Int64) → (Nat → Nat → Int32) → (Nat → Nat → Int64) → Option (Nat → Int32)) : Prop := ∀ k s l I A I1, A 6 = a6 → SS tp z n tk vl k s l I I1 → 4 * s ≤ 8 * l + st8 tp z k → ∃ r I2 A2 I3, cls I J A B = some (r, I2, A2) ∧ rf I1 J1 A1 B1 = some I3 ∧ FF I A I1 I2 A2 I3 ∧ ((r = 1 ∧ GX tp z n tk vl K d k s l A I2 A2 I3) ∨ (r = 0 ∧ DDp z I2 I3))
theorem ff_r {I : Nat → Int32} {A : Nat → Nat → Int32} {I1 : Nat → Int32} : FF I A I1 I A I1 := ⟨fun _ _ _ _ _ _ _ => rfl, fun _ _ => rfl, fun _ _ _ _ => rfl⟩
theorem ff_t {I : Nat → Int32} {A : Nat → Nat → Int32} {I1 I2 : Nat → Int32} {A2 : Nat → Nat → Int32} {I3 I4 : Nat → Int32} {A4 : Nat → Nat → Int32} {I5 : Nat → Int32} (h : FF I A I1 I2 A2 I3) (h' : FF I2 A2 I3 I4 A4 I5) : FF I A I1 I4 A4 I5 := ⟨fun x a b c d e f => (h'.1 x a b c d e f).trans (h.1 x a b c d e f), fun b hb => (h'.2.1 b hb).trans (h.2.1 b hb), fun x a b c => (h'.2.2 x a b c).trans (h.2.2 x a b c)⟩
section X6
variable {I I1 : Nat → Int32} {J J1 : Nat → Int64} {A A1 : Nat → Nat → Int32} {B B1 : Nat → Nat → Int64} {tp : Nat → Nat} {z n : Nat} {tk vl a6 : Nat → Int32}
theorem fi_1 (h : I1 28 = -1) : sX8_fine I1 J1 A1 B1 = some 1 := by
  unfold sX8_fine
  dsimp only [gv]
  rw [if_pos h]
theorem fi_0 {p : Nat} (h : I1 28 = nI p) (hp : p < 2 ^ 31) : sX8_fine I1 J1 A1 B1 = some 0 := by
  unfold sX8_fine
  dsimp only [gv]
  rw [if_neg (by rw [h]; exact nI_m1 hp)]
theorem ta_1 {k : Nat} {x : Int32} (h : I1 28 = -1) (h26 : I1 26 = nI k) (hk : k < 401) (hx : A1 22 k = x) : sX8_takes x I1 J1 A1 B1 = some (1, upd I1 26 (nI (k + 1))) := by
  unfold sX8_takes
  rw [fi_1 h]
  dsimp only [gv, Option.bind_some]
  rw [if_neg (by decide), h26, ck, if_pos (inB_n hk (by decide)), ix_n (by omega), if_pos hx, if_neg (by decide), ck, if_pos (by decide), nI_1]
theorem ta_0 {k : Nat} {x : Int32} (h : I1 28 = -1) (h26 : I1 26 = nI k) (hk : k < 401) (hx : ¬ A1 22 k = x) : sX8_takes x I1 J1 A1 B1 = some (0, I1) := by
  unfold sX8_takes
  rw [fi_1 h]
  dsimp only [gv, Option.bind_some]
  rw [if_neg (by decide), h26, ck, if_pos (inB_n hk (by decide)), ix_n (by omega), if_neg hx, if_pos rfl, ck, if_pos (by decide)]
theorem ta_d {p : Nat} {x : Int32} (h : I1 28 = nI p) (hp : p < 2 ^ 31) : sX8_takes x I1 J1 A1 B1 = some (0, I1) := by
  unfold sX8_takes
  rw [fi_0 h hp]
  dsimp only [gv, Option.bind_some]
  rw [if_pos rfl, if_pos rfl, ck, if_pos (by decide)]
theorem fa_1 {k : Nat} {c : Int32} (h : I1 28 = -1) (h26 : I1 26 = nI k) (hk : k < 401) (hc : A1 24 k = c) : sX8_faults I1 J1 A1 B1 = some (upd I1 28 c) := by
  unfold sX8_faults
  rw [fi_1 h]
  dsimp only [gv, Option.bind_some]
  rw [if_neg (by decide), h26, ck, if_pos (inB_n hk (by decide)), ix_n (by omega), hc]
theorem fa_0 {p : Nat} (h : I1 28 = nI p) (hp : p < 2 ^ 31) : sX8_faults I1 J1 A1 B1 = some I1 := by
  unfold sX8_faults
  rw [fi_0 h hp]
  rfl
theorem mu_1 {k : Nat} {x : Int32} (h : I1 28 = -1) (h26 : I1 26 = nI k) (hk : k < 401) (hx : A1 22 k = x) : sX8_must x I1 J1 A1 B1 = some (upd I1 26 (nI (k + 1))) := by
  unfold sX8_must
  rw [ta_1 h h26 hk hx]
  rfl
theorem mu_0 {k : Nat} {x c : Int32} (h : I1 28 = -1) (h26 : I1 26 = nI k) (hk : k < 401) (hx : ¬ A1 22 k = x) (hc : A1 24 k = c) : sX8_must x I1 J1 A1 B1 = some (upd I1 28 c) := by
  unfold sX8_must
  rw [ta_0 h h26 hk hx]
  dsimp only [Option.bind_some]
  rw [if_pos rfl, fa_1 h h26 hk hc]
  rfl
theorem mu_d {p : Nat} {x : Int32} (h : I1 28 = nI p) (hp : p < 2 ^ 31) : sX8_must x I1 J1 A1 B1 = some I1 := by
  unfold sX8_must
  rw [ta_d h hp]
  dsimp only [Option.bind_some]
  rw [if_pos rfl, fa_0 h hp]
  rfl
theorem le_1 {k l : Nat} (h : I1 28 = -1) (h26 : I1 26 = nI k) (h27 : I1 27 = nI l) (hl : l < 50) : sX8_leaf I1 J1 A1 B1 = some (upd (upd I1 27 (nI (l + 1))) 26 (nI (k + 1))) := by
  unfold sX8_leaf
  dsimp only [gv]
  rw [if_neg (by rw [h27, show (50 : Int32) = nI 50 from rfl, nI_eq (by omega) (by decide)]; omega), fi_1 ((upd_n _ _ (by decide)).trans h)]
  dsimp only [Option.bind_some]
  rw [if_neg (by decide), h27, nI_1, upd_n _ _ (by decide), h26, nI_1]
theorem le_0 {k p : Nat} (h : I1 28 = -1) (h26 : I1 26 = nI k) (h27 : I1 27 = 50) (hk : k < 401) (hc : A1 24 k = nI p) (hp : p < 2 ^ 31) : sX8_leaf I1 J1 A1 B1 = some (upd (upd I1 28 (nI p)) 27 51) := by
  unfold sX8_leaf
  dsimp only [gv]
  rw [if_pos h27, fa_1 h h26 hk hc]
  dsimp only [Option.bind_some]
  rw [fi_0 (p := p) (by rw [upd_n _ _ (by decide), upd_s]) hp]
  dsimp only [Option.bind_some]
  rw [if_pos rfl, upd_n _ _ (by decide), h27]
  rfl
/-- once a fault is found the reference reads no more -/
theorem dd_p {p : Nat} {rs} {x : Int32} (h : I1 28 = nI p) (hp : p < 2 ^ 31) : sX8_readPart_F rs x I1 J1 A1 B1 = some I1 := by
  unfold sX8_readPart_F
  rw [fi_0 h hp]
  rfl
theorem dd_tl {p : Nat} {rs} {x : Int32} {f : Nat} (h : I1 28 = nI p) (hp : p < 2 ^ 31) : lX8_readTerm_5 rs (f + 1) x I1 J1 A1 B1 = some I1 := by
  rw [lX8_readTerm_5]
  unfold sX8_sign
  dsimp only [Option.bind_some]
  rw [ta_d h hp]
  dsimp only [Option.bind_some]
  rw [if_pos rfl, ta_d h hp]
  rfl
theorem dd_sl {p : Nat} {rs} {x : Int32} {f : Nat} (h : I1 28 = nI p) (hp : p < 2 ^ 31) : lX8_readSum_5 rs (f + 1) x I1 J1 A1 B1 = some I1 := by
  rw [lX8_readSum_5]
  unfold sX8_sign
  dsimp only [Option.bind_some]
  rw [ta_d h hp]
  dsimp only [Option.bind_some]
  rw [if_pos rfl, ta_d h hp]
  rfl
theorem dd_t {p : Nat} {rs} {x : Int32} (h : I1 28 = nI p) (hp : p < 2 ^ 31) : sX8_readTerm_F rs x I1 J1 A1 B1 = some I1 := by
  unfold sX8_readTerm_F
  rw [dd_p h hp]
  dsimp only [Option.bind_some]
  rw [show FU = 999999 + 1 from rfl, dd_tl h hp]
  rfl
theorem dd_s {p : Nat} {rs} {x : Int32} (h : I1 28 = nI p) (hp : p < 2 ^ 31) : sX8_readSum_F rs x I1 J1 A1 B1 = some I1 := by
  unfold sX8_readSum_F
  rw [dd_t h hp]
  dsimp only [Option.bind_some]
  rw [show FU = 999999 + 1 from rfl, dd_sl h hp]
  rfl
theorem dd_pl {p : Nat} {rs} {x : Int32} (h : I1 28 = nI p) (hp : p < 2 ^ 31) : sX8_readPlain_F rs x I1 J1 A1 B1 = some I1 := by
  unfold sX8_readPlain_F
  rw [show FU = 999998 + 1 + 1 from rfl, lX8_readPlain_2, if_neg (by decide), ta_d h hp]
  dsimp only [Option.bind_some]
  rw [lX8_readPlain_2, if_pos rfl]
  dsimp only [Option.bind_some]
  rw [fi_0 h hp]
  rfl
theorem dd_bl {p : Nat} {rs} {x : Int32} {f : Nat} (h : I1 28 = nI p) (hp : p < 2 ^ 31) : lX8_readBoth_5 rs (f + 1) x I1 J1 A1 B1 = some I1 := by
  rw [lX8_readBoth_5, ta_d h hp]
  rfl
theorem dd_el {p : Nat} {rs} {x : Int32} {f : Nat} (h : I1 28 = nI p) (hp : p < 2 ^ 31) : lX8_readTest_5 rs (f + 1) x I1 J1 A1 B1 = some I1 := by
  rw [lX8_readTest_5, ta_d h hp]
  rfl
/-- the class writes an order -/
theorem wr_1 {s : Nat} {x y : Int32} (h : I 90 = nI (2 * s)) (hs : s < 200) : ∃ A2, sX3_write x y I J A B = some (upd I 90 (nI (2 * (s + 1))), A2) ∧ A2 89 (2 * s) = x ∧ A2 89 (2 * s + 1) = y ∧ (∀ i, ¬ i = 2 * s → ¬ i = 2 * s + 1 → A2 89 i = A 89 i) ∧ ∀ b, ¬ b = 89 → A2 b = A b := by
  unfold sX3_write
  rw [h, nI_1, show (400 : Int32) = nI 400 from rfl, if_neg (by rw [nn_le (by decide) (by omega)]; omega), ck, if_pos (inB_n (by omega) (by decide)), ix_n (by omega), ix_n (by omega)]
  dsimp only [gv]
  rw [ck, if_pos (inB_n (by omega) (by decide)), show nI (2 * s) + 2 = nI (2 * (s + 1)) by rw [show (2 : Int32) = nI 2 from rfl, nI_add]; rfl]
  refine ⟨_, rfl, ?_, ?_, fun i h1 h2 => ?_, fun b hb => ?_⟩
  · rw [va_up_self, upd_n _ _ (by omega), va_up_self, upd_s]
  · rw [va_up_self, upd_s]
  · rw [va_up_self, upd_n _ _ h2, va_up_self, upd_n _ _ h1]
  · rw [va_up_ne _ _ hb, va_up_ne _ _ hb]
theorem wr_g {w : Nat} {x y : Int32} (h : I 90 = nI w) (hs : w ≤ 400) : ∃ I2 A2 w', sX3_write x y I J A B = some (I2, A2) ∧ (∀ q, ¬ q = 90 → I2 q = I q) ∧ I2 90 = nI w' ∧ w' ≤ 400 ∧ ∀ b, ¬ b = 89 → A2 b = A b := by
  unfold sX3_write
  rw [h, nI_1, show (400 : Int32) = nI 400 from rfl]
  by_cases c : 400 ≤ w + 1
  · rw [if_pos ((nn_le (by decide) (by omega)).mpr c)]
    exact ⟨I, A, w, rfl, fun _ _ => rfl, h, hs, fun _ _ => rfl⟩
  · rw [if_neg (by rw [nn_le (by decide) (by omega)]; exact c), ck, if_pos (inB_n (by omega) (by decide))]
    dsimp only [gv]
    rw [ck, if_pos (inB_n (by omega) (by decide)), show nI w + 2 = nI (w + 2) by rw [show (2 : Int32) = nI 2 from rfl, nI_add]]
    exact ⟨_, _, w + 2, rfl, fun q hq => upd_n _ _ hq, upd_s _ _ _, by omega, fun b hb => by rw [va_up_ne _ _ hb, va_up_ne _ _ hb]⟩
theorem la_1 {s : Nat} (hs : s < 200) : ∃ A2, sX3_land (nI (2 * s)) I J A B = some A2 ∧ A2 89 (2 * s + 1) = I 90 ∧ (∀ i, ¬ i = 2 * s + 1 → A2 89 i = A 89 i) ∧ ∀ b, ¬ b = 89 → A2 b = A b := by
  unfold sX3_land
  rw [nI_1, show (400 : Int32) = nI 400 from rfl, if_neg (by rw [nn_le (by decide) (by omega)]; omega), ck, if_pos (inB_n (by omega) (by decide)), ix_n (by omega)]
  exact ⟨_, rfl, by rw [va_up_self, upd_s], fun i h => by rw [va_up_self, upd_n _ _ h], fun b hb => va_up_ne _ _ hb⟩
/-- on to the next token -/
theorem av_x (hc : CX tp z n tk vl A1 a6) (h6 : A 6 = a6) {k : Nat} (h : AT tp z tk vl k I) (hk : k < n) : ∃ I2, sX3_advance I J A B = some I2 ∧ AT tp z tk vl (k + 1) I2 ∧ ∀ x, ¬ x = 80 → ¬ x = 83 → ¬ x = 84 → ¬ x = 85 → I2 x = I x := by
  obtain ⟨c1, c2, c3, -⟩ := hc
  refine av_8 c1 (fun i hi => by rw [h6]; exact c2 i hi) h (c3.2.2.1 k hk).1 (fun hlt => ?_)
  by_cases w : k + 1 = n
  · rw [w, c3.2.1] at hlt
    omega
  · exact (c3.2.2.1 (k + 1) (by omega)).2
theorem st_s (hc : CX tp z n tk vl A1 a6) {k : Nat} (hk : k < n) : st8 tp z k + 1 ≤ st8 tp z (k + 1) ∧ st8 tp z (k + 1) ≤ z := by
  have h1 := (hc.2.2.1.2.2.1 k hk).1
  have h2 := st_m h1
  have h3 := te_b (tp := tp) h1
  exact ⟨by omega, (st_b (k + 1)).1⟩
end X6
