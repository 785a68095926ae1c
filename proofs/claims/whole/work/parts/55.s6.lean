/-! sums over the tiers from t on -/
def aD (f : Nat → Int) : Nat → Int
  | 0 => 0
  | d + 1 => aD f d + f (5 - d)
def lD (f : Nat → Int) : Nat → Int
  | 0 => 0
  | d + 1 => lD f d + aD f (d + 1)
def aS (f : Nat → Int) (t : Nat) : Int := aD f (6 - t)
def lS (f : Nat → Int) (t : Nat) : Int := lD f (6 - t)
theorem aS_s (f : Nat → Int) {t : Nat} (h : t < 6) : aS f t = aS f (t + 1) + f t := by
  unfold aS
  rw [show 6 - t = (5 - t) + 1 by omega, show 6 - (t + 1) = 5 - t by omega]
  show aD f (5 - t) + f (5 - (5 - t)) = _
  rw [show 5 - (5 - t) = t by omega]
theorem lS_s (f : Nat → Int) {t : Nat} (h : t < 6) : lS f t = lS f (t + 1) + aS f t := by
  unfold lS aS
  rw [show 6 - t = (5 - t) + 1 by omega, show 6 - (t + 1) = 5 - t by omega]
  rfl
theorem we_8 : ∀ k, k < 8 → sX8_eastOf (nI k) = some (sv_3 k) ∧ sX8_northOf (nI k) = some (sv_4 k) := by decide +kernel
/-- the reference's numbers for a wind -/
def RS (e : Nat → Nat → Int) (w : Nat) (c : Int32) (A : Nat → Nat → Int32) : Prop := EB e ∧ (∀ j, j < 48 → (A 1 j).toInt = e 0 j) ∧ (∀ j, j < 48 → ∃ h : Int32, h.toInt = e 1 j ∧ ∀ I J B, sX8_holdsOf (nI j) I J A B = some h) ∧ (∀ t, t < 6 → (A 1 (150 + t)).toInt = e 2 t) ∧
  ∃ (F P L G : Int) (k : Nat), w < 16 ∧ k < 8 ∧ A 1 (165 + 3 * w) = nI k ∧ (A 1 (165 + 3 * w + 1)).toInt = F ∧ (if c = 1 then 100 - A 1 160 else 100 : Int32).toInt = P ∧ (A 1 158).toInt = L ∧ (10 - A 1 159 : Int32).toInt = G ∧ (∀ t, t < 6 → e 3 t = aS (fun s => (A 1 (144 + s)).toInt) t) ∧ (∀ t, t < 6 → e 4 t = lS (fun s => (A 1 (144 + s)).toInt) t) ∧ e 5 0 = F * P * (sv_3 k).toInt ∧ e 5 1 = F * P * (sv_4 k).toInt ∧ e 5 2 = L * G
theorem RS_x {e : Nat → Nat → Int} {w : Nat} {c : Int32} {A A' : Nat → Nat → Int32} (h : RS e w c A) (h1 : A' 1 = A 1) : RS e w c A' := by
  obtain ⟨h0, h2, h3, h4, h5⟩ := h
  refine ⟨h0, by rw [h1]; exact h2, fun j hj => ?_, by rw [h1]; exact h4, by rw [h1]; exact h5⟩
  obtain ⟨v, v1, v2⟩ := h3 j hj
  refine ⟨v, v1, fun I J B => ?_⟩
  rw [← v2 I J B]
  unfold sX8_holdsOf sX8_term
  rw [h1]
section S6
variable {e : Nat → Nat → Int} {g : Nat → Bool} {t w : Nat} {c : Int32} {I : Nat → Int32} {J : Nat → Int64} {A : Nat → Nat → Int32} {B : Nat → Nat → Int64}
theorem wd_8 {w f : Nat} (hw : w < 16) (hf : f < 3) : sX8_windOf (nI w) (nI f) I J A B = some (A 1 (165 + 3 * w + f)) := by
  unfold sX8_windOf
  rw [show (165 : Int32) + 3 * nI w + nI f = nI (165 + 3 * w + f) by rw [show (3 : Int32) = nI 3 from rfl, show (165 : Int32) = nI 165 from rfl, pk_mul, nI_add, nI_add], ck, if_pos (inB_n (by omega) (by decide)), ix_n (by omega)]
theorem ls_8 {F : Int} (hw : w < 16) (hF : (A 1 (165 + 3 * w + 1)).toInt = F) (ht : t < 6) : ∀ n p, 6 < p + n → t ≤ p → p ≤ 6 → lX8_lays_9 n (nI w) c (nI t) (lI (F * (aS (fun s => (A 1 (144 + s)).toInt) t - aS (fun s => (A 1 (144 + s)).toInt) p))) (lI (F * (lS (fun s => (A 1 (144 + s)).toInt) t - lS (fun s => (A 1 (144 + s)).toInt) p - (((p - t : Nat) : Int)) * aS (fun s => (A 1 (144 + s)).toInt) p))) (nI p) I J A B = some (lI (F * aS (fun s => (A 1 (144 + s)).toInt) t), lI (F * lS (fun s => (A 1 (144 + s)).toInt) t)) := by
  intro n
  induction n with
  | zero => intro p h1 h2 h3; omega
  | succ n ih =>
    intro p h1 h2 h3
    rw [lX8_lays_9]
    by_cases hp : p = 6
    · subst hp
      rw [if_pos (by decide)]
      have z1 : aS (fun s => (A 1 (144 + s)).toInt) 6 = 0 := rfl
      have z2 : lS (fun s => (A 1 (144 + s)).toInt) 6 = 0 := rfl
      rw [z1, z2, Int.sub_zero, Int.sub_zero, Int.mul_zero, Int.sub_zero]
    · rw [if_neg (by rw [show (6 : Int32) = nI 6 from rfl, nn_le (by decide) (by omega)]; omega)]
      have hwd : sX8_windOf (nI w) 1 I J A B = some (A 1 (165 + 3 * w + 1)) := wd_8 (f := 1) hw (by decide)
      rw [hwd]
      dsimp only [gv, Option.bind_some]
      rw [show (144 : Int32) + nI p = nI (144 + p) from nI_add 144 p, ix_n (show 144 + p < 2 ^ 31 by omega), nI_1]
      simp only [ck, if_pos (inB_n (show 144 + p < 8047 by omega) (by decide))]
      have ep : (nI p - nI t + 1 : Int32).toInt = ((p - t : Nat) : Int) + 1 := by
        rw [pk_sub h2, nI_1, nI_toInt (by omega)]
        omega
      rw [l_32 hF, l_32 (show (A 1 (144 + p)).toInt = (fun s => (A 1 (144 + s)).toInt) p from rfl), l_32 ep, ← l_mul, ← l_mul, ← l_add, ← l_add]
      have s1 := aS_s (fun s => (A 1 (144 + s)).toInt) (show p < 6 by omega)
      have s2 := lS_s (fun s => (A 1 (144 + s)).toInt) (show p < 6 by omega)
      have := ih (p + 1) (by omega) (by omega) (by omega)
      rw [← this]
      have e0 : ((p + 1 - t : Nat) : Int) = ((p - t : Nat) : Int) + 1 := by omega
      rw [e0, s1, s2, s1]
      congr 1
      · congr 1
        grind
      · congr 1
        grind
def ks (e : Nat → Nat → Int) (g : Nat → Bool) (t f i : Nat) : Int := match i with
  | 0 => (if g (8 * t + 2 * f) = true then 0 else e 0 (8 * t + 2 * f)) + (if g (8 * t + 2 * f + 1) = true then 0 else e 0 (8 * t + 2 * f + 1))
  | 1 => (if g (8 * t + 2 * f + 1) = true then 0 else e 0 (8 * t + 2 * f + 1))
  | _ => 0
theorem kk_8 {f : Nat} {x9 x11 : Int64} (h0 : ∀ j, j < 48 → (A 1 j).toInt = e 0 j) (hg : ∀ i, i < 48 → i / 8 = t → A 4 i = if g i = true then 1 else 0) (ht : t < 6) (hf : f < 4) : ∀ (n i : Nat) (B : Nat → Nat → Int64), 2 < i + n → i ≤ 2 → ∃ B2, lX8_lays_217 n (nI t) x9 x11 (nI f) (nI i) I J A B = some B2 ∧ (∀ b, ¬ b = 5 → B2 b = B b) ∧ (∀ q, ¬ q = f → B2 5 q = B 5 q) ∧ B2 5 f = B 5 f + lI (ks e g t f i) := by
  intro n
  induction n with
  | zero => intro i B h1 h2; omega
  | succ n ih =>
    intro i B h1 h2
    rw [lX8_lays_217]
    by_cases hi : i = 2
    · subst hi
      rw [if_pos (by decide)]
      exact ⟨B, rfl, fun _ _ => rfl, fun _ _ => rfl, by show B 5 f = B 5 f + lI 0; rw [← l_z, Int64.add_zero]⟩
    · rw [if_neg (by rw [show (2 : Int32) = nI 2 from rfl, nn_le (by decide) (by omega)]; omega)]
      have hj : 8 * t + 2 * f + i < 48 := by omega
      have e1 : (8 : Int32) * nI t + 2 * nI f + nI i = nI (8 * t + 2 * f + i) := by rw [show (8 : Int32) = nI 8 from rfl, show (2 : Int32) = nI 2 from rfl, pk_mul, pk_mul, nI_add, nI_add]
      have e2 : (0 : Int32) + 8 * nI t + 2 * nI f + nI i = nI (8 * t + 2 * f + i) := by rw [Int32.zero_add]; exact e1
      have e3 := hg (8 * t + 2 * f + i) hj (by omega)
      dsimp only [gv]
      rw [e1, e2, ix_n (show 8 * t + 2 * f + i < 2 ^ 31 by omega), ix_n (show f < 2 ^ 31 by omega), nI_1, e3]
      simp only [ck, if_pos (inB_n (show f < 4 by omega) (by decide)), if_pos (inB_n hj (by decide)), if_pos (inB_n (show 8 * t + 2 * f + i < 8047 by omega) (by decide))]
      have hk : ks e g t f i = (if g (8 * t + 2 * f + i) = true then 0 else e 0 (8 * t + 2 * f + i)) + ks e g t f (i + 1) := by
        rcases (by omega : i = 0 ∨ i = 1) with rfl | rfl
        · rfl
        · show _ = _ + 0; rw [Int.add_zero]; rfl
      have fin : ∀ v : Int, v = (if g (8 * t + 2 * f + i) = true then 0 else e 0 (8 * t + 2 * f + i)) → ∃ B2, lX8_lays_217 n (nI t) x9 x11 (nI f) (nI (i + 1)) I J A (va_up B 5 (vp_updL (B 5) f (B 5 f + lI v))) = some B2 ∧ (∀ b, ¬ b = 5 → B2 b = B b) ∧ (∀ q, ¬ q = f → B2 5 q = B 5 q) ∧ B2 5 f = B 5 f + lI (ks e g t f i) := by
        intro v hv
        obtain ⟨B2, q1, q2, q3, q4⟩ := ih (i + 1) (va_up B 5 (vp_updL (B 5) f (B 5 f + lI v))) (by omega) (by omega)
        refine ⟨B2, q1, fun b hb => by rw [q2 b hb, va_up_ne _ _ hb], fun q hq => by rw [q3 q hq, va_up_self, vp_updL, if_neg hq], ?_⟩
        rw [q4, va_up_self, vp_updL, if_pos rfl, hk, l_add, ← hv, Int64.add_assoc]
      by_cases hgj : g (8 * t + 2 * f + i) = true
      · rw [if_pos hgj, if_neg (by decide), l_z]
        exact fin 0 (by rw [if_pos hgj])
      · rw [if_neg hgj, if_pos rfl, l_32 (h0 _ hj)]
        exact fin _ (by rw [if_neg hgj])
theorem kf_8 {x9 x11 : Int64} (h0 : ∀ j, j < 48 → (A 1 j).toInt = e 0 j) (hg : ∀ i, i < 48 → i / 8 = t → A 4 i = if g i = true then 1 else 0) (ht : t < 6) : ∀ (n f : Nat) (B : Nat → Nat → Int64), 4 < f + n → f ≤ 4 → ∃ B2, lX8_lays_200 n (nI t) x9 x11 (nI f) I J A B = some B2 ∧ (∀ b, ¬ b = 5 → B2 b = B b) ∧ (∀ q, q < f → B2 5 q = B 5 q) ∧ ∀ q, f ≤ q → q < 4 → B2 5 q = lI (kF e g t q) := by
  intro n
  induction n with
  | zero => intro f B h1 h2; omega
  | succ n ih =>
    intro f B h1 h2
    rw [lX8_lays_200]
    by_cases hi : f = 4
    · subst hi
      rw [if_pos (by decide)]
      exact ⟨B, rfl, fun _ _ => rfl, fun _ _ => rfl, fun q h3 h4 => by omega⟩
    · rw [if_neg (by rw [show (4 : Int32) = nI 4 from rfl, nn_le (by decide) (by omega)]; omega)]
      dsimp only [gv]
      rw [ix_n (show f < 2 ^ 31 by omega), nI_1, ck, if_pos (inB_n (show f < 4 by omega) (by decide))]
      obtain ⟨B1, p1, p2, p3, p4⟩ := kk_8 (I := I) (J := J) (x9 := x9) (x11 := x11) h0 hg ht (show f < 4 by omega) FU 0 (va_up B 5 (vp_updL (B 5) f 0)) (by unfold FU; omega) (by omega)
      have p1 : lX8_lays_217 FU (nI t) x9 x11 (nI f) 0 I J A (va_up B 5 (vp_updL (B 5) f 0)) = some B1 := p1
      rw [p1]
      dsimp only [Option.bind_some]
      obtain ⟨B2, q1, q2, q3, q4⟩ := ih (f + 1) B1 (by omega) (by omega)
      refine ⟨B2, q1, fun b hb => by rw [q2 b hb, p2 b hb, va_up_ne _ _ hb], fun q hq => ?_, fun q h3 h4 => ?_⟩
      · rw [q3 q (by omega), p3 q (by omega), va_up_self, vp_updL, if_neg (by omega)]
      · by_cases eq : q = f
        · subst eq
          rw [q3 q (by omega), p4, va_up_self, vp_updL, if_pos rfl, Int64.zero_add]
          rfl
        · exact q4 q (by omega) h4
end S6
