/-- tokens k..k' are a clause; its row: head h, orders s, m, s' -/
def CLT (tk vl w : Nat → Int32) (h : Int32) (k s m k' s' : Nat) : Prop := ∃ y k1, 1 ≤ y ∧ y ≤ 3 ∧ h = nI (255 + y) ∧ tk k = nI y ∧ ((y = 3 ∧ k1 = k + 1 ∧ m = s) ∨ (y ≤ 2 ∧ TRE tk vl w 2 9 (k + 1) s k1 m ∧ s < m ∧ CLo 2 (tk k1))) ∧ ((tk k1 = 4 ∧ TRE tk vl w 6 9 (k1 + 1) m k' s' ∧ m < s' ∧ CLo 6 (tk k')) ∨ (¬ tk k1 = 4 ∧ k' = k1 ∧ s' = m))
/-- what reading clauses leaves as it was -/
def FG (I : Nat → Int32) (A : Nat → Nat → Int32) (I1 I2 : Nat → Int32) (A2 : Nat → Nat → Int32) (I3 : Nat → Int32) : Prop := (∀ x, ¬ x = 80 → ¬ x = 83 → ¬ x = 84 → ¬ x = 85 → ¬ x = 86 → ¬ x = 88 → ¬ x = 90 → I2 x = I x) ∧ (∀ b, ¬ b = 87 → ¬ b = 89 → A2 b = A b) ∧ ∀ x, ¬ x = 26 → ¬ x = 27 → ¬ x = 28 → I3 x = I1 x
theorem fg_f {I : Nat → Int32} {A : Nat → Nat → Int32} {I1 I2 : Nat → Int32} {A2 : Nat → Nat → Int32} {I3 : Nat → Int32} (h : FF I A I1 I2 A2 I3) : FG I A I1 I2 A2 I3 := ⟨fun x a b c d e _ f => h.1 x a b c d e f, fun b _ hb => h.2.1 b hb, h.2.2⟩
theorem fg_t {I : Nat → Int32} {A : Nat → Nat → Int32} {I1 I2 : Nat → Int32} {A2 : Nat → Nat → Int32} {I3 I4 : Nat → Int32} {A4 : Nat → Nat → Int32} {I5 : Nat → Int32} (h : FG I A I1 I2 A2 I3) (h' : FG I2 A2 I3 I4 A4 I5) : FG I A I1 I4 A4 I5 := ⟨fun x a b c d e f g => (h'.1 x a b c d e f g).trans (h.1 x a b c d e f g), fun b ha hb => (h'.2.1 b ha hb).trans (h.2.1 b ha hb), fun x a b c => (h'.2.2 x a b c).trans (h.2.2 x a b c)⟩
section Y5
variable {I I1 : Nat → Int32} {J J1 : Nat → Int64} {A A1 : Nat → Nat → Int32} {B B1 : Nat → Nat → Int64} {tp : Nat → Nat} {z n : Nat} {tk vl a6 : Nat → Int32}
theorem nc_1 {c : Nat} {x y v : Int32} (h : I 88 = nI c) (hc : c < 12) : ∃ A2, sX3_noteClause x y v I J A B = some (upd I 88 (nI (c + 1)), A2) ∧ A2 87 (4 * c) = x ∧ A2 87 (4 * c + 1) = y ∧ A2 87 (4 * c + 2) = v ∧ A2 87 (4 * c + 3) = I 90 ∧ (∀ i, i < 4 * c → A2 87 i = A 87 i) ∧ ∀ b, ¬ b = 87 → A2 b = A b := by
  unfold sX3_noteClause
  dsimp only [gv]
  rw [h, show nI c * 4 = nI (4 * c) by rw [show (4 : Int32) = nI 4 from rfl, pk_mul, Nat.mul_comm], show nI (4 * c) + 4 = nI (4 * c + 4) by rw [show (4 : Int32) = nI 4 from rfl, nI_add], show nI (4 * c) + 0 = nI (4 * c) by rw [show (0 : Int32) = nI 0 from rfl, nI_add]; rfl, nI_1, show nI (4 * c) + 2 = nI (4 * c + 2) by rw [show (2 : Int32) = nI 2 from rfl, nI_add], show nI (4 * c) + 3 = nI (4 * c + 3) by rw [show (3 : Int32) = nI 3 from rfl, nI_add], nI_1, if_neg (by rw [show (48 : Int32) = nI 48 from rfl, nn_lt (by decide) (by omega)]; omega), ck, if_pos (inB_n (by omega) (by decide)), ck, if_pos (inB_n (by omega) (by decide)), ck, if_pos (inB_n (by omega) (by decide)), ck, if_pos (inB_n (by omega) (by decide)), ix_n (by omega), ix_n (by omega), ix_n (by omega), ix_n (by omega)]
  refine ⟨_, rfl, ?_, ?_, ?_, ?_, fun i hi => ?_, fun b hb => ?_⟩
  · rw [va_up_self, upd_n _ _ (by omega), va_up_self, upd_n _ _ (by omega), va_up_self, upd_n _ _ (by omega), va_up_self, upd_s]
  · rw [va_up_self, upd_n _ _ (by omega), va_up_self, upd_n _ _ (by omega), va_up_self, upd_s]
  · rw [va_up_self, upd_n _ _ (by omega), va_up_self, upd_s]
  · rw [va_up_self, upd_s]
  · rw [va_up_self, upd_n _ _ (by omega), va_up_self, upd_n _ _ (by omega), va_up_self, upd_n _ _ (by omega), va_up_self, upd_n _ _ (by omega)]
  · rw [va_up_ne _ _ hb, va_up_ne _ _ hb, va_up_ne _ _ hb, va_up_ne _ _ hb]
end Y5
