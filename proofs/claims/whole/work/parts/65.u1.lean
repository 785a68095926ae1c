/-- one of the first n -/
def fA (f : Nat → Bool) : Nat → Bool
  | 0 => false
  | n + 1 => fA f n || f n
theorem fA_t {f : Nat → Bool} : ∀ {n : Nat}, fA f n = true ↔ ∃ t, t < n ∧ f t = true := by
  intro n
  induction n with
  | zero => exact ⟨fun h => (by cases h), fun ⟨t, h, _⟩ => absurd h (Nat.not_lt_zero t)⟩
  | succ n ih =>
    rw [fA, Bool.or_eq_true_iff, ih]
    constructor
    · rintro (⟨t, h1, h2⟩ | h)
      · exact ⟨t, by omega, h2⟩
      · exact ⟨n, by omega, h⟩
    · rintro ⟨t, h1, h2⟩
      by_cases e : t = n
      · subst e; exact Or.inr h2
      · exact Or.inl ⟨t, by omega, h2⟩
theorem fA_x {f g : Nat → Bool} : ∀ n, (∀ t, t < n → f t = g t) → fA f n = fA g n := by
  intro n
  induction n with
  | zero => intro _; rfl
  | succ n ih => intro h; rw [fA, fA, ih (fun t ht => h t (by omega)), h n (by omega)]
/-- it falls by a wind -/
def FW (h : Nat → Int) (lg : Int) (A : Nat → Nat → Int32) (w : Nat) (c : Int32) : Bool := fA (fun t => runL (eS h lg A w c) t 9 (fun _ => false)) 6
theorem FW_g (h : Nat → Int) (lg : Int) (A : Nat → Nat → Int32) (w : Nat) (c : Int32) : (runG (eS h lg A w c) FU (fun _ => false) []).2 ≠ none ↔ FW h lg A w c = true := by
  rw [tg_1 FU (fun _ => false) [] (Nat.lt_of_le_of_lt (cn_le 48) (by unfold FU; omega)), FW, fA_t]
  constructor
  · rintro ⟨t, h1, m, h2⟩
    refine ⟨t, h1, ?_⟩
    have := runL_9 m _ h2
    rw [show cn (fun _ => false) (8 * t) 8 = 8 from rfl] at this
    exact this
  · rintro ⟨t, h1, h2⟩
    exact ⟨t, h1, 9, h2⟩
theorem bb_xm (b : Int32) {i : Nat} (hi : i < 32) : bb (b ^^^ -1) i = !(bb b i) := by
  unfold bb
  rw [Int32.toBitVec_xor, BitVec.getLsbD_xor]
  have : (-1 : Int32).toBitVec.getLsbD i = true := (by decide +kernel : ∀ i, i < 32 → (-1 : Int32).toBitVec.getLsbD i = true) i hi
  rw [this, Bool.xor_true]
theorem an_0 (a b : Int32) : a &&& (b ^^^ -1) = 0 ↔ ∀ i, i < 32 → bb a i = true → bb b i = true := by
  constructor
  · intro h i hi ha
    have := bb_and a (b ^^^ -1) i
    rw [h, bb_0, ha, bb_xm b hi, Bool.true_and] at this
    cases hb : bb b i with
    | true => rfl
    | false => rw [hb] at this; cases this
  · intro h
    refine bb_ext (fun i hi => ?_)
    rw [bb_and, bb_xm b hi, bb_0]
    cases ha : bb a i with
    | false => rfl
    | true => rw [h i hi ha]; rfl
section U1
variable {X : Txt → Int32 → (Nat → Int32) → (Nat → Int32) → Prop} {I I' I1 I1' : Nat → Int32} {J J' J1 J1' : Nat → Int64} {A A' A1 A1' : Nat → Nat → Int32} {B B' B1 B1' : Nat → Nat → Int64} {T : Nat → Option Txt} {M : Nat → Option Img} {K : Nat → Int32} {h : Nat → Int} {lg : Int} {k t : Nat} {e : Nat → Nat → Int}
theorem fi_7 {x2 x3 x4 : Int32} (ht : t < 6) : ∀ (n c : Nat) (g : Nat → Bool) (I : Nat → Int32) (A : Nat → Nat → Int32) (B : Nat → Nat → Int64), 8 < c + n → c ≤ 8 → BS e I J A → (∀ i, i < 8 → bb (A 60 t) i = g (8 * t + i)) → A 61 t = wI (lk e g t) → (I 54 = if okF e g t = true then -1 else nI t) → SP (lX1_fallsOf_66 n (nI t) x2 x3 x4 (nI c) I J A B) (fun a => (a.1 54 = -1 ↔ runL e t (9 - c) g = false) ∧ (∀ q, ¬ q = 54 → a.1 q = I q) ∧ ∀ b, ¬ b = 60 → ¬ b = 61 → ¬ b = 64 → a.2.1 b = A b) := by
  intro n
  induction n with
  | zero => intro c g I A B h1 h2; omega
  | succ n ih =>
    intro c g I A B h1 h2 hb hm h61 h54
    rw [lX1_fallsOf_66]
    have e9 : 9 - c = (8 - c) + 1 := by omega
    by_cases hc : c = 8
    · subst hc
      refine sp_t (by decide) (sp_some ⟨?_, fun _ _ => rfl, fun _ _ _ _ => rfl⟩)
      show I 54 = -1 ↔ runL e t (0 + 1) g = false
      rw [h54, runL]
      by_cases hok : okF e g t = true
      · rw [if_pos hok, if_pos hok]
        cases bT (qF e g) (8 * t) 8 with
        | none => exact ⟨fun _ => rfl, fun _ => rfl⟩
        | some p => exact ⟨fun _ => rfl, fun _ => rfl⟩
      · rw [if_neg hok, if_neg hok]
        exact ⟨fun q => absurd q (nI_m1 (by omega)), fun q => by cases q⟩
    · refine sp_f (by rw [show (8 : Int32) = nI 8 from rfl, nn_le (by decide) (by omega)]; omega) ?_
      refine sp_ck (inB_n (by omega) (by decide)) ?_
      rw [ix_n (by omega), h61]
      by_cases hok : okF e g t = true
      · have hlk : lk e g t = bT (qF e g) (8 * t) 8 := if_pos hok
        rw [hlk]
        cases hbt : bT (qF e g) (8 * t) 8 with
        | none =>
          refine sp_t rfl (sp_some ⟨?_, fun _ _ => rfl, fun _ _ _ _ => rfl⟩)
          show I 54 = -1 ↔ _
          rw [h54, e9, runL, if_pos hok, if_pos hok, hbt]
          exact ⟨fun _ => rfl, fun _ => rfl⟩
        | some p =>
          obtain ⟨p1, p2, p3⟩ := bT_s hbt
          refine sp_f (nI_m1 (show p.1 < 2 ^ 31 by omega)) ?_
          refine sp_ck (inB_n (by omega) (by decide)) ?_
          refine sp_ck (inB_n (by omega) (by decide)) ?_
          refine sp_ck (inB_n (by omega) (by decide)) ?_
          rw [show wI (some p) = nI p.1 from rfl, show nI p.1 - nI p.1 / (8 : Int32) * 8 = nI (p.1 % 8) from pk_rem (by omega) (by decide) (by decide), nI_1]
          refine sp_gvG (fun A1 hA1 => ?_)
          have b1 : BS e I J A1 := by rw [hA1]; exact BS_x hb rfl ⟨rfl, rfl⟩ ⟨rfl, rfl, rfl, rfl, rfl⟩
          have m1 : ∀ i, i < 8 → bb (A1 60 t) i = ad g p.1 (8 * t + i) := by
            intro i hi
            rw [hA1, va_up_self, upd_s, bb_or, s1_i (by omega) (by omega), hm i hi]
            unfold ad
            by_cases z : 8 * t + i = p.1
            · rw [if_pos z, decide_eq_true (by omega), Bool.or_true]
            · rw [if_neg z, decide_eq_false (by omega), Bool.or_false]
          obtain ⟨A2, B2, q1, q2, q3, q4, q5, q6, q7⟩ := lk_7 (g := ad g p.1) (B := B) b1 ht m1
          refine sp_bind q1 ?_
          refine sp_gv ?_
          have i2 : ∀ q, ¬ q = 54 → (if okF e (ad g p.1) t = true then I else upd I 54 (nI t)) q = I q := by
            intro q hq
            split
            · rfl
            · exact upd_n _ _ hq
          obtain ⟨a, r1, r2, r3, r4⟩ := ih (c + 1) (ad g p.1) (if okF e (ad g p.1) t = true then I else upd I 54 (nI t)) A2 B2 (by omega) (by omega) (BS_x b1 (i2 57 (by decide)) ⟨rfl, rfl⟩ ⟨q2 10 (by decide) (by decide), q2 51 (by decide) (by decide), q2 14 (by decide) (by decide), q2 55 (by decide) (by decide), q2 56 (by decide) (by decide)⟩) (by rw [q2 60 (by decide) (by decide)]; exact m1) q6 (by
            split
            · rw [h54, if_pos hok]
            · exact upd_s _ _ _)
          refine ⟨a, r1, ?_, fun q hq => by rw [r3 q hq, i2 q hq], fun b b1 b2 b3 => by rw [r4 b b1 b2 b3, q2 b b2 b3, hA1, va_up_ne _ _ b1]⟩
          rw [r2, e9, runL, if_pos hok, hbt, show 9 - (c + 1) = 8 - c by omega]
      · have hlk : lk e g t = none := if_neg hok
        rw [hlk]
        refine sp_t rfl (sp_some ⟨?_, fun _ _ => rfl, fun _ _ _ _ => rfl⟩)
        show I 54 = -1 ↔ _
        rw [h54, e9, runL, if_neg hok, if_neg hok]
        exact ⟨fun q => absurd q (nI_m1 (by omega)), fun q => by cases q⟩
/-- of the winds and currents that are asked for those by which a tier falls -/
def fB (h : Nat → Int) (lg : Int) (A : Nat → Nat → Int32) (t : Nat) (m : Int32) (k i : Nat) : Bool := decide (i < 2 * k) && (bb m i && runL (eS h lg A (i / 2) (nI (i % 2))) t 9 (fun _ => false))
theorem RY_x (hy : RY h lg I A) (h57 : I' 57 = I 57) (h51 : A' 51 = A 51) (h55 : A' 55 = A 55) (h56 : A' 56 = A 56) (h13 : A' 13 = A 13) (h15 : A' 15 = A 15) : RY h lg I' A' := by
  unfold RY
  rw [h57, h51, h55, h56, h13, h15]
  exact hy
theorem fo_5 (hX : XE X) (hs : SR X GG I A T K) (ek : I 32 = nI k) (hk : k ≤ 16) (hh : ∀ j, j < 48 → 0 ≤ h j ∧ h j ≤ 100000) (hl : 0 ≤ lg ∧ lg ≤ 10) (hy : RY h lg I A) (ht : t < 6) {m : Int32} : ∀ (n i : Nat) (x : Int32) (I' : Nat → Int32) (J : Nat → Int64) (A' : Nat → Nat → Int32) (B : Nat → Nat → Int64), 2 * k < i + n → i ≤ 2 * k → (∀ q, ¬ q = 54 → I' q = I q) → (∀ b, ¬ b = 60 → ¬ b = 61 → ¬ b = 64 → A' b = A b) → (∀ q, q < 32 → bb x q = (decide (q < i) && fB h lg A t m k q)) → SP (lX1_fallsOf_5 n (nI t) m x (nI i) I' J A' B) (fun a => (∀ q, q < 32 → bb a.1 q = fB h lg A t m k q) ∧ (∀ q, ¬ q = 54 → a.2.1 q = I q) ∧ ∀ b, ¬ b = 60 → ¬ b = 61 → ¬ b = 64 → a.2.2.2.1 b = A b) := by
  intro n
  induction n with
  | zero => intro i x I' J A' B h1 h2; omega
  | succ n ih =>
    intro i x I' J A' B h1 h2 hI hA hx
    rw [lX1_fallsOf_5, hI 32 (by decide), ek, show (2 : Int32) * nI k = nI (2 * k) by rw [show (2 : Int32) = nI 2 from rfl, pk_mul]]
    by_cases hi : i = 2 * k
    · refine sp_t (by rw [hi]; exact (nn_le (by omega) (by omega)).mpr (Nat.le_refl _)) (sp_some ⟨fun q hq => ?_, hI, hA⟩)
      show bb x q = _
      rw [hx q hq]
      unfold fB
      rw [hi]
      cases decide (q < 2 * k) <;> rfl
    · have hi : i < 2 * k := by omega
      refine sp_f (by rw [nn_le (by omega) (by omega)]; omega) ?_
      have c1 : (ushr m (nI i) &&& 1 = 0) ↔ bb m i = false := u1_i _ (by omega)
      rw [nI_1]
      cases hmi : bb m i with
      | false =>
        refine sp_t (c1.mpr hmi) (sp_gv ?_)
        refine ih (i + 1) x I' J A' B (by omega) (by omega) hI hA (fun q hq => ?_)
        rw [hx q hq]
        by_cases z : q = i
        · subst z
          unfold fB
          rw [hmi, Bool.false_and, Bool.and_false, Bool.and_false, Bool.and_false]
        · rw [decide_eq_decide.mpr (show q < i ↔ q < i + 1 by omega)]
      | true =>
        refine sp_f (fun q => by rw [c1.mp q] at hmi; cases hmi) ?_
        have hs' : SR X GG I' A' T K := SR_ext hX (fun q q1 q2 => hI q (by omega)) (fun a k1 k2 j => by rw [hA a (by omega) (by omega) (by omega)]) (fun _ _ => rfl) hs
        have hy' : RY h lg I' A' := RY_x hy (hI 57 (by decide)) (hA 51 (by decide) (by decide) (by decide)) (hA 55 (by decide) (by decide) (by decide)) (hA 56 (by decide) (by decide) (by decide)) (hA 13 (by decide) (by decide) (by decide)) (hA 15 (by decide) (by decide) (by decide))
        rw [show nI i - nI i / (2 : Int32) * 2 = nI (i % 2) from pk_rem (by omega) (by decide) (by decide), show nI i / (2 : Int32) = nI (i / 2) from pk_div (by omega) (by decide) (by decide)]
        obtain ⟨J2, b1, b2⟩ := bw_s (J := J) (B := B) (w := i / 2) (c := nI (i % 2)) hs' ((hI 32 (by decide)).trans ek) hk (by omega) (by
          rcases (by omega : i % 2 = 0 ∨ i % 2 = 1) with z | z
          · rw [z]; exact Or.inl rfl
          · rw [z]; exact Or.inr rfl) hh hl hy'
        rw [eS_x (hA 10 (by decide) (by decide) (by decide)) (hA 14 (by decide) (by decide) (by decide)) (hA 13 (by decide) (by decide) (by decide)) (hA 31 (by decide) (by decide) (by decide)) (hA 15 (by decide) (by decide) (by decide))] at b2
        refine sp_bind b1 ?_
        refine sp_gvG (fun Ia hIa => ?_)
        refine sp_ck (inB_n (by omega) (by decide)) ?_
        rw [ix_n (show t < 2 ^ 31 by omega)]
        refine sp_gvG (fun Aa hAa => ?_)
        have hRL : ∀ (e : Nat → Nat → Int), eS h lg A (i / 2) (nI (i % 2)) = e → BS e I' J2 A' → SP ((sX1_look (nI t) Ia J2 Aa B).bind fun (I, A, B) => (lX1_fallsOf_66 FU (nI t) m x (nI i) 0 I J2 A B).bind fun (I, A, B) => gv (if (I 54) = -1 then 0 else ((1 : Int32) <<< (nI i &&& 31))) fun v_131 => gv (x ||| v_131) fun x3_132 => gv (nI (i + 1)) fun x4_133 => lX1_fallsOf_5 n (nI t) m x3_132 x4_133 I J2 A B) (fun a => (∀ q, q < 32 → bb a.1 q = fB h lg A t m k q) ∧ (∀ q, ¬ q = 54 → a.2.1 q = I q) ∧ ∀ b, ¬ b = 60 → ¬ b = 61 → ¬ b = 64 → a.2.2.2.1 b = A b) := by
          intro e he b2
          have b3 : BS e Ia J2 Aa := by rw [hIa, hAa]; exact BS_x b2 rfl ⟨rfl, rfl⟩ ⟨rfl, rfl, rfl, rfl, rfl⟩
          have m0 : ∀ i, i < 8 → bb (Aa 60 t) i = (fun _ => false) (8 * t + i) := fun i _ => by rw [hAa, va_up_self, upd_s, bb_0]
          obtain ⟨A2, B2, q1, q2, q3, q4, q5, q6, q7⟩ := lk_7 (g := fun _ => false) (B := B) b3 ht m0
          rw [ok_0 b2.1 ht, if_pos rfl] at q1
          refine sp_bind q1 ?_
          have b4 : BS e Ia J2 A2 := BS_x b3 rfl ⟨rfl, rfl⟩ ⟨q2 10 (by decide) (by decide), q2 51 (by decide) (by decide), q2 14 (by decide) (by decide), q2 55 (by decide) (by decide), q2 56 (by decide) (by decide)⟩
          obtain ⟨⟨I3, A3, B3⟩, r1, r2, r3, r4⟩ := fi_7 (x2 := m) (x3 := x) (x4 := nI i) (e := e) ht FU 0 (fun _ => false) Ia A2 B2 (by unfold FU; omega) (by omega) b4 (by rw [q2 60 (by decide) (by decide)]; exact m0) q6 (by rw [ok_0 b2.1 ht, if_pos rfl, hIa, upd_s])
          refine sp_bind r1 ?_
          refine sp_gv ?_
          refine sp_gv ?_
          refine sp_gv ?_
          refine ih (i + 1) _ I3 J2 A3 B3 (by omega) (by omega) (fun q hq => ?_) (fun b b1 b2 b3 => ?_) (fun q hq => ?_)
          · rw [show I3 q = Ia q from r3 q hq, hIa, upd_n _ _ hq]; exact hI q hq
          · rw [show A3 b = A2 b from r4 b b1 b2 b3, q2 b b2 b3, hAa, va_up_ne _ _ b1]; exact hA b b1 b2 b3
          · rw [bb_or, hx q hq]
            have r2 : I3 54 = -1 ↔ runL e t 9 (fun _ => false) = false := r2
            by_cases z : q = i
            · subst z
              unfold fB
              rw [hmi, he, decide_eq_false (Nat.lt_irrefl q), Bool.false_and, Bool.false_or, decide_eq_true (Nat.lt_succ_self q), decide_eq_true hi, Bool.true_and, Bool.true_and, Bool.true_and]
              cases hrl : runL e t 9 (fun _ => false) with
              | false => rw [if_pos (r2.mpr hrl), bb_0]
              | true => rw [if_neg (fun w => by rw [r2.mp w] at hrl; cases hrl), s1_i (by omega) hq, decide_eq_true rfl]
            · have z2 : bb (if I3 54 = -1 then 0 else ((1 : Int32) <<< (nI i &&& 31))) q = false := by
                split
                · exact bb_0 q
                · rw [s1_i (by omega) hq, decide_eq_false z]
              rw [z2, Bool.or_false, decide_eq_decide.mpr (show q < i ↔ q < i + 1 by omega)]
        exact hRL _ rfl b2
theorem fo_7 (hX : XE X) (hs : SR X GG I A T K) (ek : I 32 = nI k) (hk : k ≤ 16) (hh : ∀ j, j < 48 → 0 ≤ h j ∧ h j ≤ 100000) (hl : 0 ≤ lg ∧ lg ≤ 10) (hy : RY h lg I A) (ht : t < 6) (m : Int32) : SP (sX1_fallsOf (nI t) m I J A B) (fun a => (∀ q, q < 32 → bb a.1 q = fB h lg A t m k q) ∧ (∀ q, ¬ q = 54 → a.2.1 q = I q) ∧ ∀ b, ¬ b = 60 → ¬ b = 61 → ¬ b = 64 → a.2.2.2.1 b = A b) := by
  unfold sX1_fallsOf
  obtain ⟨⟨x, I2, J2, A2, B2⟩, q1, q2⟩ := fo_5 hX hs ek hk hh hl hy ht (m := m) FU 0 0 I J A B (by unfold FU; omega) (by omega) (fun _ _ => rfl) (fun _ _ _ _ => rfl) (fun q hq => by rw [bb_0]; rfl)
  exact sp_bind q1 (sp_some q2)
end U1
