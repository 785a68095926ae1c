section U4
variable {X : Txt → Int32 → (Nat → Int32) → (Nat → Int32) → Prop} {I I' I1 I1' : Nat → Int32} {J J' J1 J1' : Nat → Int64} {A A' A1 A1' : Nat → Nat → Int32} {B B' B1 B1' : Nat → Nat → Int64} {T : Nat → Option Txt} {M : Nat → Option Img} {K : Nat → Int32} {h : Nat → Int} {lg : Int} {k t : Nat} {m c : Int32}
theorem sa_8 : ∃ A2, sX8_saves I1 J1 A1 B1 = some A2 ∧ (∀ a, ¬ a = 39 → A2 a = A1 a) ∧ ∀ p, p < 96 → A2 39 p = A1 1 (48 + p) := by
  have hl : ∀ (n p : Nat) (A : Nat → Nat → Int32), 96 < p + n → p ≤ 96 → (∀ q, q < p → A 39 q = A 1 (48 + q)) → ∃ A2, lX8_saves_2 n (nI p) I1 J1 A B1 = some A2 ∧ (∀ a, ¬ a = 39 → A2 a = A a) ∧ ∀ q, q < 96 → A2 39 q = A 1 (48 + q) := by
    intro n
    induction n with
    | zero => intro p A h1 h2; omega
    | succ n ih =>
      intro p A h1 h2 hq
      rw [lX8_saves_2]
      by_cases hp : p = 96
      · subst hp
        rw [if_pos (by decide)]
        exact ⟨A, rfl, fun _ _ => rfl, hq⟩
      · rw [if_neg (by rw [show (96 : Int32) = nI 96 from rfl, nn_le (by decide) (by omega)]; omega), show (48 : Int32) + nI p = nI (48 + p) from nI_add 48 p, ck, if_pos (inB_n (by omega) (by decide)), ck, if_pos (inB_n (by omega) (by decide)), ix_n (by omega), ix_n (by omega)]
        show ∃ A2, lX8_saves_2 n (nI p + 1) I1 J1 (va_up A 39 (upd (A 39) p (A 1 (48 + p)))) B1 = some A2 ∧ _
        rw [nI_1]
        obtain ⟨A2, r1, r2, r3⟩ := ih (p + 1) (va_up A 39 (upd (A 39) p (A 1 (48 + p)))) (by omega) (by omega) (fun q h => by
          rw [va_up_self, va_up_ne _ _ (by decide)]
          by_cases z : q = p
          · subst z; rw [upd_s]
          · rw [upd_n _ _ z]; exact hq q (by omega))
        exact ⟨A2, r1, fun a ha => by rw [r2 a ha, va_up_ne _ _ ha], fun q h => by rw [r3 q h, va_up_ne _ _ (by decide)]⟩
  obtain ⟨A2, r1, r2, r3⟩ := hl FU 0 A1 (by unfold FU; omega) (by omega) (fun q h => by omega)
  have r1 : lX8_saves_2 FU 0 I1 J1 A1 B1 = some A2 := r1
  exact ⟨A2, by unfold sX8_saves; rw [r1]; rfl, r2, r3⟩
theorem re_8 : ∃ A2, sX8_restores I1 J1 A1 B1 = some A2 ∧ (∀ a, ¬ a = 1 → A2 a = A1 a) ∧ ∀ i, A2 1 i = if 48 ≤ i ∧ i < 144 then A1 39 (i - 48) else A1 1 i := by
  have hl : ∀ (n p : Nat) (A : Nat → Nat → Int32), 96 < p + n → p ≤ 96 → ∃ A2, lX8_restores_2 n (nI p) I1 J1 A B1 = some A2 ∧ (∀ a, ¬ a = 1 → A2 a = A a) ∧ ∀ i, A2 1 i = if 48 + p ≤ i ∧ i < 144 then A 39 (i - 48) else A 1 i := by
    intro n
    induction n with
    | zero => intro p A h1 h2; omega
    | succ n ih =>
      intro p A h1 h2
      rw [lX8_restores_2]
      by_cases hp : p = 96
      · subst hp
        rw [if_pos (by decide)]
        exact ⟨A, rfl, fun _ _ => rfl, fun i => by rw [if_neg (by omega)]⟩
      · rw [if_neg (by rw [show (96 : Int32) = nI 96 from rfl, nn_le (by decide) (by omega)]; omega), show (48 : Int32) + nI p = nI (48 + p) from nI_add 48 p, ck, if_pos (inB_n (by omega) (by decide)), ck, if_pos (inB_n (by omega) (by decide)), ix_n (by omega), ix_n (by omega)]
        show ∃ A2, lX8_restores_2 n (nI p + 1) I1 J1 (va_up A 1 (upd (A 1) (48 + p) (A 39 p))) B1 = some A2 ∧ _
        rw [nI_1]
        obtain ⟨A2, r1, r2, r3⟩ := ih (p + 1) (va_up A 1 (upd (A 1) (48 + p) (A 39 p))) (by omega) (by omega)
        refine ⟨A2, r1, fun a ha => by rw [r2 a ha, va_up_ne _ _ ha], fun i => ?_⟩
        rw [r3 i, va_up_self, va_up_ne _ _ (by decide)]
        by_cases z : i = 48 + p
        · subst z
          rw [if_neg (by omega), if_pos (by omega), upd_s]
          congr 1
          omega
        · by_cases y : 48 + p ≤ i ∧ i < 144
          · rw [if_pos (by omega), if_pos y]
          · rw [if_neg (by omega), if_neg y, upd_n _ _ z]
  obtain ⟨A2, r1, r2, r3⟩ := hl FU 0 A1 (by unfold FU; omega) (by omega)
  have r1 : lX8_restores_2 FU 0 I1 J1 A1 B1 = some A2 := r1
  exact ⟨A2, by unfold sX8_restores; rw [r1]; rfl, r2, r3⟩
/-- the row kept, while joints are told anew: h is what they hold -/
def KW (W V : Int32) (K : Nat → Int32) (h : Nat → Int) (A1 : Nat → Nat → Int32) : Prop := (∀ i, ¬ (48 ≤ i ∧ i < 144) → A1 1 i = K i) ∧ ∀ j, j < 48 → A1 1 (96 + j) = 0 ∧ ((A1 1 (48 + j) = 0 ∧ h j = W.toInt) ∨ (A1 1 (48 + j) = 1 ∧ h j = V.toInt))
theorem be_8 {j : Nat} {x : Int32} (hj : j < 48) : sX8_becomes (nI j) x I1 J1 A1 B1 = some (va_up (va_up A1 1 (upd (A1 1) (48 + j) x)) 1 (upd (va_up A1 1 (upd (A1 1) (48 + j) x) 1) (96 + j) 0)) := by
  unfold sX8_becomes
  rw [show (48 : Int32) + nI j = nI (48 + j) from nI_add 48 j, show (96 : Int32) + nI j = nI (96 + j) from nI_add 96 j, ck, if_pos (inB_n (by omega) (by decide)), ix_n (by omega), ix_n (by omega)]
  show ck _ _ = _
  rw [ck, if_pos (inB_n (by omega) (by decide))]
  rfl
theorem KW_b {W V : Int32} (hk : KW W V K h A1) {j : Nat} (hj : j < 48) {x : Int32} {v : Int} (hx : (x = 0 ∧ v = W.toInt) ∨ (x = 1 ∧ v = V.toInt)) : KW W V K (fun i => if i = j then v else h i) (va_up (va_up A1 1 (upd (A1 1) (48 + j) x)) 1 (upd (va_up A1 1 (upd (A1 1) (48 + j) x) 1) (96 + j) 0)) := by
  have e : ∀ i, va_up (va_up A1 1 (upd (A1 1) (48 + j) x)) 1 (upd (va_up A1 1 (upd (A1 1) (48 + j) x) 1) (96 + j) 0) 1 i = if i = 96 + j then 0 else if i = 48 + j then x else A1 1 i := by
    intro i
    rw [va_up_self, va_up_self]
    by_cases z : i = 96 + j
    · subst z; rw [upd_s, if_pos rfl]
    · rw [upd_n _ _ z, if_neg z]
      by_cases y : i = 48 + j
      · subst y; rw [upd_s, if_pos rfl]
      · rw [upd_n _ _ y, if_neg y]
  refine ⟨fun i hi => ?_, fun i hi => ?_⟩
  · rw [e, if_neg (by omega), if_neg (by omega)]; exact hk.1 i hi
  · have := hk.2 i hi
    refine ⟨?_, ?_⟩
    · rw [e]
      by_cases z : i = j
      · rw [if_pos (by omega)]
      · rw [if_neg (by omega), if_neg (by omega)]; exact this.1
    · rw [e]
      by_cases z : i = j
      · rw [if_neg (by omega), if_pos (by omega)]
        show _ ∨ _
        simp only [if_pos z]
        exact hx
      · rw [if_neg (by omega), if_neg (by omega)]
        simp only [if_neg z]
        exact this.2
theorem KW_r (hs : SR X GG I A T K) (ek : I 32 = nI k) (hk : k ≤ 16) (hkw : KW (A 15 0) (A 15 1) K h A1) {w : Nat} (hw : w < k) : RS (eS h (A 15 3).toInt A w c) w c A1 ∧ ∀ j, j < 48 → 0 ≤ h j ∧ h j ≤ 100000 := by
  have h0 : bt (A 15 0) 1 100000 := (hs.2.2.2.2.2.1.1 0 (by decide)).2
  have h1 : bt (A 15 1) 1 100000 := (hs.2.2.2.2.2.1.1 1 (by decide)).2
  have h3 : bt (A 15 3) 0 10 := (hs.2.2.2.2.2.1.1 3 (by decide)).2
  have hh : ∀ j, j < 48 → 0 ≤ h j ∧ h j ≤ 100000 := fun j hj => by
    rcases (hkw.2 j hj).2 with ⟨-, e⟩ | ⟨-, e⟩ <;> omega
  refine ⟨rs_of hs ek hk hw hh h3 (fun i hi _ => hkw.1 i hi) (fun j hj => ?_) ?_, hh⟩
  · obtain ⟨a, b⟩ := hkw.2 j hj
    have e0 : A1 1 156 = A 15 0 := by rw [hkw.1 156 (by omega)]; exact (hs.2.2.2.2.2.1.1 0 (by decide)).1.symm
    have e1 : A1 1 157 = A 15 1 := by rw [hkw.1 157 (by omega)]; exact (hs.2.2.2.2.2.1.1 1 (by decide)).1.symm
    rcases b with ⟨b1, b2⟩ | ⟨b1, b2⟩
    · exact ⟨A 15 0, b2.symm, fun I J B => by rw [hold_9 hj b1 a e0 e1, if_pos rfl]⟩
    · refine ⟨A 15 1, b2.symm, fun I J B => ?_⟩
      rw [hold_9 hj b1 a e0 e1, if_neg (by decide), Int32.mul_zero, Int32.zero_div, Int32.add_zero]
  · rw [hkw.1 159 (by omega), ← (hs.2.2.2.2.2.1.1 3 (by decide)).1]
theorem s6_8 {W V : Int32} : ∀ (n p : Nat) (A1 : Nat → Nat → Int32), 48 < p + n → p ≤ 48 → (∀ i, ¬ (48 ≤ i ∧ i < 144) → A1 1 i = K i) → (∀ j, j < p → A1 1 (96 + j) = 0 ∧ A1 1 (48 + j) = 0) → ∃ A2, lX8_saw_6 n (nI p) I1 J1 A1 B1 = some A2 ∧ (∀ a, ¬ a = 1 → A2 a = A1 a) ∧ KW W V K (fun _ => W.toInt) A2 := by
  intro n
  induction n with
  | zero => intro p A1 h1 h2; omega
  | succ n ih =>
    intro p A1 h1 h2 hK hz
    rw [lX8_saw_6]
    by_cases hp : p = 48
    · subst hp
      rw [if_pos (by decide)]
      exact ⟨A1, rfl, fun _ _ => rfl, hK, fun j hj => ⟨(hz j hj).1, Or.inl ⟨(hz j hj).2, rfl⟩⟩⟩
    · rw [if_neg (by rw [show (48 : Int32) = nI 48 from rfl, nn_le (by decide) (by omega)]; omega), be_8 (by omega)]
      show ∃ A2, lX8_saw_6 n (nI p + 1) I1 J1 _ B1 = some A2 ∧ _
      rw [nI_1]
      generalize hA2 : va_up (va_up A1 1 (upd (A1 1) (48 + p) 0)) 1 (upd (va_up A1 1 (upd (A1 1) (48 + p) 0) 1) (96 + p) 0) = A2
      have e : ∀ i, A2 1 i = if i = 96 + p then 0 else if i = 48 + p then 0 else A1 1 i := by
        intro i
        subst hA2
        rw [va_up_self, va_up_self]
        by_cases z : i = 96 + p
        · subst z; rw [upd_s, if_pos rfl]
        · rw [upd_n _ _ z, if_neg z]
          by_cases y : i = 48 + p
          · subst y; rw [upd_s, if_pos rfl]
          · rw [upd_n _ _ y, if_neg y]
      obtain ⟨A3, r1, r2, r3⟩ := ih (p + 1) A2 (by omega) (by omega) (fun i hi => by rw [e, if_neg (by omega), if_neg (by omega)]; exact hK i hi) (fun j hj => by
        by_cases z : j = p
        · subst z; exact ⟨by rw [e, if_pos rfl], by rw [e, if_neg (by omega), if_pos rfl]⟩
        · exact ⟨by rw [e, if_neg (by omega), if_neg (by omega)]; exact (hz j (by omega)).1, by rw [e, if_neg (by omega), if_neg (by omega)]; exact (hz j (by omega)).2⟩)
      refine ⟨A3, r1, fun a ha => ?_, r3⟩
      rw [r2 a ha]
      subst hA2
      rw [va_up_ne _ _ ha, va_up_ne _ _ ha]
/-- a step's row -/
theorem stp (hs : SR X GG I A T K) {n i : Nat} (ek : I 35 = nI n) (hn : n ≤ 60) (hi : i < n) : ∃ j d, j < 48 ∧ d < 2 ∧ A 34 (i * 6 + 1) = nI j ∧ A 34 (i * 6 + 2) = nI d ∧ K (213 + 6 * i + 1) = nI j ∧ K (213 + 6 * i + 2) = nI d := by
  obtain ⟨-, -, k2, hk2, ek2, hc⟩ := hs.2.2.2.2.2.2.2.1 1 (by decide)
  have e : k2 = n := by
    have e3 : nI k2 = nI n := ek2.symm.trans ek
    have hk2 : k2 ≤ 60 := hk2
    have := congrArg Int32.toNatClampNeg e3
    rw [nI_clamp (by omega), nI_clamp (by omega)] at this
    exact this
  subst e
  have hc2 : ∀ j, j < k2 * 6 → A 34 j = K (213 + j) ∧ GG 1 (j % 6) (A 34 j) := fun j hj => hc j hj (fun h => absurd h (by decide))
  have c1 := hc2 (i * 6 + 1) (by omega)
  have c2 := hc2 (i * 6 + 2) (by omega)
  rw [show (i * 6 + 1) % 6 = 1 by omega] at c1
  rw [show (i * 6 + 2) % 6 = 2 by omega] at c2
  have g1 : bt (A 34 (i * 6 + 1)) 0 47 := c1.2
  have g2 : bt (A 34 (i * 6 + 2)) 0 1 := c2.2
  obtain ⟨j, hj, ej⟩ := nI_of (x := A 34 (i * 6 + 1)) (by rw [i32_lt, show (0 : Int32).toInt = 0 from rfl]; omega)
  obtain ⟨d, hd, ed⟩ := nI_of (x := A 34 (i * 6 + 2)) (by rw [i32_lt, show (0 : Int32).toInt = 0 from rfl]; omega)
  refine ⟨j, d, by rw [ej, bt, nI_toInt hj] at g1; omega, by rw [ed, bt, nI_toInt hd] at g2; omega, ej, ed, ?_, ?_⟩
  · rw [← ej, c1.1]; congr 1; omega
  · rw [← ed, c2.1]; congr 1; omega
theorem rg_jt {j : Nat} (hj : j < 48) : ¬ rg (nI j) 0 47 = 0 := by
  unfold rg
  rw [if_neg (nI_n0 (by omega)), if_neg (by rw [show (47 : Int32) = nI 47 from rfl, nn_lt (by decide) (by omega)]; omega)]
  decide
end U4
