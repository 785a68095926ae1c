section U5
variable {X : Txt → Int32 → (Nat → Int32) → (Nat → Int32) → Prop} {I I' I1 I1' : Nat → Int32} {J J' J1 J1' : Nat → Int64} {A A' A1 A1' : Nat → Nat → Int32} {B B' B1 B1' : Nat → Nat → Int64} {T : Nat → Option Txt} {M : Nat → Option Img} {K : Nat → Int32} {h : Nat → Int} {lg : Int} {k t : Nat} {m c : Int32}
theorem KW_h (hs : SR X GG I A T K) (hkw : KW (A 15 0) (A 15 1) K h A1) : ∀ j, j < 48 → 0 ≤ h j ∧ h j ≤ 100000 := by
  have h0 : bt (A 15 0) 1 100000 := (hs.2.2.2.2.2.1.1 0 (by decide)).2
  have h1 : bt (A 15 1) 1 100000 := (hs.2.2.2.2.2.1.1 1 (by decide)).2
  intro j hj
  rcases (hkw.2 j hj).2 with ⟨-, e⟩ | ⟨-, e⟩ <;> omega
theorem eS_h (h h' : Nat → Int) (lg : Int) (A : Nat → Nat → Int32) (w : Nat) (c : Int32) : ∀ n i, ¬ n = 1 → eS h lg A w c n i = eS h' lg A w c n i := by
  intro n i hn
  unfold eS
  match n, hn with
  | 0, _ => rfl
  | 1, hn => exact absurd rfl hn
  | 2, _ => rfl
  | 3, _ => rfl
  | 4, _ => rfl
  | _ + 5, _ => rfl
theorem fB_x {h h' : Nat → Int} (hh : ∀ i, i / 8 = t → h i = h' i) (q : Nat) : fB h lg A t m k q = fB h' lg A t m k q := by
  unfold fB
  rw [runL_x (e := eS h lg A (q / 2) (nI (q % 2))) (e' := eS h' lg A (q / 2) (nI (q % 2))) (t := t) (eS_h h h' lg A _ _) (fun i hi => hh i hi) 9 (fun _ => false) (fun _ => false) (fun _ _ => rfl)]
/-- what the class holds while it goes through the steps -/
def SW7 (lg : Int) (k : Nat) (I : Nat → Int32) (A : Nat → Nat → Int32) (h : Nat → Int) (I' : Nat → Int32) (A' : Nat → Nat → Int32) : Prop :=
  (∀ q, ¬ q = 54 → I' q = I q) ∧ (∀ b, ¬ b = 51 → ¬ b = 60 → ¬ b = 61 → ¬ b = 63 → ¬ b = 64 → A' b = A b) ∧ (∀ j, j < 48 → (A' 51 j).toInt = h j) ∧ ∀ u, u < 6 → ∀ q, q < 32 → bb (A' 63 u) q = fB h lg A u (-1431655766) k q
def bc7 (k : Nat) (f : Nat → Bool) (x : Int32) : Prop := ∀ q, q < 32 → bb x q = (decide (q < 2 * k) && (decide (q % 2 = 1) && f (q / 2)))
def bc8 (k : Nat) (f : Nat → Bool) (x : Int32) : Prop := ∀ q, q < 32 → bb x q = (decide (q < k) && f q)
theorem bc_0 {f f' : Nat → Bool} (hk : k ≤ 16) {x x' y y' : Int32} (h1 : bc7 k f x) (h2 : bc7 k f' x') (h3 : bc8 k f y) (h4 : bc8 k f' y') : (x' &&& (x ^^^ -1) = 0) ↔ (y' &&& (y ^^^ -1) = 0) := by
  rw [an_0, an_0]
  constructor
  · intro h q hq hy
    rw [h4 q hq, Bool.and_eq_true_iff] at hy
    have hqk := of_decide_eq_true hy.1
    have := h (2 * q + 1) (by omega) (by rw [h2 _ (by omega), decide_eq_true (by omega), decide_eq_true (by omega), show (2 * q + 1) / 2 = q by omega, hy.2]; rfl)
    rw [h1 _ (by omega), Bool.and_eq_true_iff, Bool.and_eq_true_iff, show (2 * q + 1) / 2 = q by omega] at this
    rw [h3 q hq, decide_eq_true hqk, this.2.2]
    rfl
  · intro h q hq hy
    rw [h2 q hq, Bool.and_eq_true_iff, Bool.and_eq_true_iff] at hy
    have hqk := of_decide_eq_true hy.1
    have ho := of_decide_eq_true hy.2.1
    have := h (q / 2) (by omega) (by rw [h4 _ (by omega), decide_eq_true (by omega), hy.2.2]; rfl)
    rw [h3 _ (by omega), Bool.and_eq_true_iff] at this
    rw [h1 q hq, hy.1, hy.2.1, this.2]
    rfl
theorem odd1 {q : Nat} (h : q % 2 = 1) : nI (q % 2) = 1 := by rw [h]; rfl
theorem bc_7 {h : Nat → Int} {x : Int32} (hx : ∀ q, q < 32 → bb x q = (decide (q < 2 * k) && (bb (-1431655766) q && FW h lg A (q / 2) (nI (q % 2))))) : bc7 k (fun w => FW h lg A w 1) x := by
  intro q hq
  rw [hx q hq, m_a q hq]
  by_cases z : q % 2 = 1
  · rw [odd1 z]
  · rw [decide_eq_false z, Bool.false_and, Bool.false_and]
theorem sw_2 (hX : XE X) (hs : SR X GG I A T K) (ek : I 32 = nI k) (hk : k ≤ 16) {n0 : Nat} (en : I 35 = nI n0) (hn0 : n0 ≤ 60) (h55 : ∀ t, t < 6 → (A 55 t).toInt = aS (fun s => (A 13 s).toInt) t) (h56 : ∀ t, t < 6 → (A 56 t).toInt = lS (fun s => (A 13 s).toInt) t) (h57 : (I 57).toInt = (A 15 2).toInt * (10 - (A 15 3).toInt)) (hkn : K 1635 = nI n0) (hkk : K 1633 = nI k) : ∀ (n i : Nat) (h : Nat → Int) (x y : Int32) (I' : Nat → Int32) (J : Nat → Int64) (A' : Nat → Nat → Int32) (B : Nat → Nat → Int64) (I1' : Nat → Int32) (J1 : Nat → Int64) (A1' : Nat → Nat → Int32) (B1 : Nat → Nat → Int64), n0 < i + n → i ≤ n0 → SW7 (A 15 3).toInt k I A h I' A' → KW (A 15 0) (A 15 1) K h A1' → (∀ q, ¬ q = 15 → ¬ q = 16 → I1' q = I1 q) → (∀ b, ¬ b = 1 → ¬ b = 4 → ¬ b = 14 → A1' b = A1 b) → bc7 k (fun w => FW h (A 15 3).toInt A w 1) x → bc8 k (fun w => FW h (A 15 3).toInt A w 1) y → RB (lX7_saw_38 n x (nI i) I' J A' B) (lX8_saw_34 n y (-1) (nI i) I1' J1 A1' B1) (fun a b => ∃ z : (Nat → Int32) × (Nat → Int64) × (Nat → Nat → Int32) × (Nat → Nat → Int64), ((a = .inr z ∧ b.1 = -1) ∨ ∃ v, a = .inl (v, z) ∧ b.1 = v) ∧ (∀ q, ¬ q = 54 → z.1 q = I q) ∧ (∀ c, ¬ c = 51 → ¬ c = 60 → ¬ c = 61 → ¬ c = 63 → ¬ c = 64 → z.2.2.1 c = A c) ∧ (∀ q, ¬ q = 15 → ¬ q = 16 → b.2.1 q = I1 q) ∧ (∀ c, ¬ c = 1 → ¬ c = 4 → ¬ c = 14 → b.2.2.2.1 c = A1 c) ∧ ∀ j, ¬ (48 ≤ j ∧ j < 144) → b.2.2.2.1 1 j = K j) := by
  have hl3 : 0 ≤ (A 15 3).toInt ∧ (A 15 3).toInt ≤ 10 := (hs.2.2.2.2.2.1.1 3 (by decide)).2
  intro n
  induction n with
  | zero => intro i h x y I' J A' B I1' J1 A1' B1 a1 a2; omega
  | succ n ih =>
    intro i h x y I' J A' B I1' J1 A1' B1 a1 a2 hsw hkw hI1 hA1 hx hy
    obtain ⟨w1, w2, w3, w4⟩ := hsw
    rw [lX7_saw_38, lX8_saw_34, w1 35 (by decide), en, show A1' 1 (ix 1635) = nI n0 from (hkw.1 1635 (by decide)).trans hkn]
    refine rb_if Iff.rfl (fun _ _ => rb_some ⟨(I', J, A', B), Or.inl ⟨rfl, rfl⟩, w1, w2, hI1, hA1, hkw.1⟩) (fun g _ => rr_t rfl ?_)
    rw [nn_le (by omega) (by omega)] at g
    obtain ⟨j, d, hj, hd, e1, e2, k1, k2⟩ := stp hs en hn0 (show i < n0 by omega)
    have a34 : A' 34 = A 34 := w2 34 (by decide) (by decide) (by decide) (by decide) (by decide)
    have ew : I' 33 = nI 6 := (w1 33 (by decide)).trans (hs.2.2.2.2.2.2.2.1 1 (by decide)).1
    have ei : I' 35 = nI n0 := (w1 35 (by decide)).trans en
    have c1 : sX5_cell 1 (nI i) 1 I' J A' B = some (nI j) := by rw [← e1, ← a34]; exact cell_7 (n := 1) (k := n0) (i := i) (c := 1) (by decide) ew ei hn0 (by omega) (by decide)
    have c2 : sX5_cell 1 (nI i) 2 I' J A' B = some (nI d) := by rw [← e2, ← a34]; exact cell_7 (n := 1) (k := n0) (i := i) (c := 2) (by decide) ew ei hn0 (by omega) (by decide)
    refine rl_bind c1 (rl_bind (jt_7 _) (rl_f (rg_jt hj) (rl_bind c2 (rl_gv ?_))))
    have s1 : sX8_stepOf (nI i) 1 I1' J1 A1' B1 = some (nI j) := by
      unfold sX8_stepOf
      rw [show (213 : Int32) + 6 * nI i + 1 = nI (213 + 6 * i + 1) by rw [show (6 : Int32) = nI 6 from rfl, show (213 : Int32) = nI 213 from rfl, pk_mul, nI_add, nI_1], ck, if_pos (inB_n (by omega) (by decide)), ix_n (by omega), hkw.1 _ (by omega), k1]
    have s2 : sX8_stepOf (nI i) 2 I1' J1 A1' B1 = some (nI d) := by
      unfold sX8_stepOf
      rw [show (213 : Int32) + 6 * nI i + 2 = nI (213 + 6 * i + 2) by rw [show (6 : Int32) = nI 6 from rfl, show (213 : Int32) = nI 213 from rfl, show (2 : Int32) = nI 2 from rfl, pk_mul, nI_add, nI_add], ck, if_pos (inB_n (by omega) (by decide)), ix_n (by omega), hkw.1 _ (by omega), k2]
    refine rr_bind s1 (rr_bind s2 (rr_bind (be_8 hj) ?_))
    have ed : (if nI d = 0 then (0 : Int32) else 1) = nI d := by
      rcases (by omega : d = 0 ∨ d = 1) with rfl | rfl <;> rfl
    rw [ed]
    refine rl_ck (inB_n (by omega) (by decide)) (rl_ck (inB_n hj (by decide)) (rl_gv ?_))
    rw [ix_n (show j < 2 ^ 31 by omega), ix_n (show d < 2 ^ 31 by omega), show A' 15 = A 15 from w2 15 (by decide) (by decide) (by decide) (by decide) (by decide), show nI j / (8 : Int32) = nI (j / 8) from pk_div (by omega) (by decide) (by decide)]
    -- what joints hold behind the step
    have hxv : (nI d = 0 ∧ (A 15 d).toInt = (A 15 0).toInt) ∨ (nI d = 1 ∧ (A 15 d).toInt = (A 15 1).toInt) := by
      rcases (by omega : d = 0 ∨ d = 1) with rfl | rfl
      · exact Or.inl ⟨rfl, rfl⟩
      · exact Or.inr ⟨rfl, rfl⟩
    have hkw2 := KW_b hkw hj hxv
    generalize hA2 : va_up (va_up A1' 1 (upd (A1' 1) (48 + j) (nI d))) 1 (upd (va_up A1' 1 (upd (A1' 1) (48 + j) (nI d)) 1) (96 + j) 0) = A2 at hkw2
    have hA2o : ∀ b, ¬ b = 1 → A2 b = A1' b := fun b hb => by subst hA2; rw [va_up_ne _ _ hb, va_up_ne _ _ hb]
    generalize hh2 : (fun i => if i = j then (A 15 d).toInt else h i) = h2 at hkw2
    have hh2j : ∀ i, ¬ i / 8 = j / 8 → h2 i = h i := fun i hi => by subst hh2; exact if_neg (fun q => hi (by rw [q]))
    generalize hA3 : va_up A' 51 (upd (A' 51) j (A 15 d)) = A3
    have hA3o : ∀ b, ¬ b = 51 → A3 b = A' b := fun b hb => by subst hA3; exact va_up_ne _ _ hb
    have h51 : ∀ q, q < 48 → (A3 51 q).toInt = h2 q := fun q hq => by
      subst hA3 hh2
      rw [va_up_self]
      by_cases z : q = j
      · subst z; rw [upd_s]; exact (if_pos rfl).symm
      · rw [upd_n _ _ z, w3 q hq]; exact (if_neg z).symm
    have bx : ∀ b, ¬ b = 51 → ¬ b = 60 → ¬ b = 61 → ¬ b = 63 → ¬ b = 64 → A3 b = A b := fun b b1 b2 b3 b4 b5 => by rw [hA3o b b1]; exact w2 b b1 b2 b3 b4 b5
    have hs3 : SR X GG I' A3 T K := SR_ext hX (fun q q1 q2 => w1 q (by omega)) (fun a q1 q2 j => by rw [bx a (by omega) (by omega) (by omega) (by omega) (by omega)]) (fun _ _ => rfl) hs
    have a13 : A3 13 = A 13 := bx 13 (by decide) (by decide) (by decide) (by decide) (by decide)
    have a15 : A3 15 = A 15 := bx 15 (by decide) (by decide) (by decide) (by decide) (by decide)
    have ry3 : RY h2 (A 15 3).toInt I' A3 := by
      refine ⟨h51, ?_, ?_, ?_⟩
      · rw [bx 55 (by decide) (by decide) (by decide) (by decide) (by decide), a13]; exact h55
      · rw [bx 56 (by decide) (by decide) (by decide) (by decide) (by decide), a13]; exact h56
      · rw [w1 57 (by decide), a15]; exact h57
    have hes : ∀ (g : Nat → Int) (l : Int) w c, eS g l A3 w c = eS g l A w c := fun g l w c => eS_x (bx 10 (by decide) (by decide) (by decide) (by decide) (by decide)) (bx 14 (by decide) (by decide) (by decide) (by decide) (by decide)) a13 (bx 31 (by decide) (by decide) (by decide) (by decide) (by decide)) a15
    have hhb := KW_h hs hkw2
    have hrs : ∀ w, w < k → RS (eS h2 (A 15 3).toInt A w 1) w 1 A2 := fun w hw => (KW_r hs ek hk hkw2 hw).1
    obtain ⟨⟨r, Ib, Jb, Ab, Bb⟩, p1, p2, p3, p4⟩ := fo_7 (J := J) (B := B) (t := j / 8) hX hs3 ((w1 32 (by decide)).trans ek) hk hhb hl3 ry3 (by omega) (-1431655766)
    have p2 : ∀ q, q < 32 → bb r q = fB h2 (A 15 3).toInt A3 (j / 8) (-1431655766) k q := p2
    have p3 : ∀ q, ¬ q = 54 → Ib q = I' q := p3
    have p4 : ∀ b, ¬ b = 60 → ¬ b = 61 → ¬ b = 64 → Ab b = A3 b := p4
    generalize hA4 : va_up Ab 63 (upd (Ab 63) (j / 8) r) = A4
    have m4 : ∀ u, u < 6 → ∀ q, q < 32 → bb (A4 63 u) q = fB h2 (A 15 3).toInt A u (-1431655766) k q := by
      intro u hu q hq
      subst hA4
      rw [va_up_self]
      by_cases z : u = j / 8
      · subst z
        rw [upd_s, p2 q hq]
        unfold fB
        rw [hes]
      · rw [upd_n _ _ z, p4 63 (by decide) (by decide) (by decide), hA3o 63 (by decide), w4 u hu q hq]
        exact fB_x (fun i hi => (hh2j i (fun y => z (by omega))).symm) q
    obtain ⟨x', f1, f2⟩ := af_7 (I := Ib) (J := Jb) (A := A4) (B := Bb)
    have fan : sX1_fallsAnew (nI (j / 8)) (-1431655766) I' J A3 B = some (x', Ib, Jb, A4, Bb) := by
      unfold sX1_fallsAnew
      rw [p1]
      dsimp only [Option.bind_some]
      rw [ck, if_pos (inB_n (by omega) (by decide)), ix_n (by omega)]
      rw [hA4]
      dsimp only [gv]
      rw [f1]
      rfl
    refine rl_bind fan ?_
    have hx' : bc7 k (fun w => FW h2 (A 15 3).toInt A w 1) x' := bc_7 (fun q hq => by
      rw [f2 q hq, ← fB_a]
      exact fA_x 6 (fun t ht => m4 t ht q hq))
    obtain ⟨⟨y', I5, J5, A5, B5⟩, g1, g2, g3, g4, -⟩ := fy_8 (I1 := I1') (J1 := J1) (B1 := B1) hk hrs ((hkw2.1 1633 (by decide)).trans hkk)
    refine rr_bind g1 ?_
    have hy' : bc8 k (fun w => FW h2 (A 15 3).toInt A w 1) y' := g2
    have g3 : ∀ q, ¬ q = 15 → ¬ q = 16 → I5 q = I1' q := g3
    have g4 : ∀ b, ¬ b = 4 → ¬ b = 14 → A5 b = A2 b := g4
    have sw' : SW7 (A 15 3).toInt k I A h2 Ib A4 := by
      refine ⟨fun q hq => by rw [p3 q hq]; exact w1 q hq, fun b b1 b2 b3 b4 b5 => ?_, ?_, m4⟩
      · rw [← hA4, va_up_ne _ _ b4, p4 b b2 b3 b5]; exact bx b b1 b2 b3 b4 b5
      · rw [← hA4, va_up_ne _ _ (show ¬ 51 = 63 by decide), p4 51 (by decide) (by decide) (by decide)]; exact h51
    have kw' : KW (A 15 0) (A 15 1) K h2 A5 := by
      have e : A5 1 = A2 1 := g4 1 (by decide) (by decide)
      unfold KW
      rw [e]
      exact hkw2
    have i5 : ∀ q, ¬ q = 15 → ¬ q = 16 → I5 q = I1 q := fun q q1 q2 => by rw [g3 q q1 q2]; exact hI1 q q1 q2
    have a5 : ∀ b, ¬ b = 1 → ¬ b = 4 → ¬ b = 14 → A5 b = A1 b := fun b b1 b2 b3 => by rw [g4 b b2 b3, hA2o b b1]; exact hA1 b b1 b2 b3
    show RB (if x' &&& (x ^^^ -1) = 0 then _ else _) (if y' &&& (y ^^^ -1) = 0 then _ else _) _
    rw [nI_1]
    refine rb_if (bc_0 hk hx hx' hy hy') (fun _ _ => rl_gv (rr_gv ?_)) (fun _ _ => rr_gv ?_)
    · exact ih (i + 1) h2 x' y' Ib Jb A4 Bb I5 J5 A5 B5 (by omega) (by omega) sw' kw' i5 a5 hx' hy'
    · obtain ⟨n', rfl⟩ : ∃ n', n = n' + 1 := ⟨n - 1, by omega⟩
      rw [lX8_saw_34]
      have fin : RB (some (.inl (nI i, Ib, Jb, A4, Bb)) : Option ((Int32 × (Nat → Int32) × (Nat → Int64) × (Nat → Nat → Int32) × (Nat → Nat → Int64)) ⊕ ((Nat → Int32) × (Nat → Int64) × (Nat → Nat → Int32) × (Nat → Nat → Int64)))) (some (nI i, I5, J5, A5, B5)) (fun a b => ∃ z : (Nat → Int32) × (Nat → Int64) × (Nat → Nat → Int32) × (Nat → Nat → Int64), ((a = .inr z ∧ b.1 = -1) ∨ ∃ v, a = .inl (v, z) ∧ b.1 = v) ∧ (∀ q, ¬ q = 54 → z.1 q = I q) ∧ (∀ c, ¬ c = 51 → ¬ c = 60 → ¬ c = 61 → ¬ c = 63 → ¬ c = 64 → z.2.2.1 c = A c) ∧ (∀ q, ¬ q = 15 → ¬ q = 16 → b.2.1 q = I1 q) ∧ (∀ c, ¬ c = 1 → ¬ c = 4 → ¬ c = 14 → b.2.2.2.1 c = A1 c) ∧ ∀ j, ¬ (48 ≤ j ∧ j < 144) → b.2.2.2.1 1 j = K j) := rb_some ⟨(Ib, Jb, A4, Bb), Or.inr ⟨nI i, rfl, rfl⟩, sw'.1, sw'.2.1, i5, a5, kw'.1⟩
      by_cases c : A5 1 (ix 1635) ≤ nI (i + 1)
      · exact rr_t c fin
      · exact rr_f c (rr_f (nI_m1 (by omega)) fin)
theorem ps_saw (hX : XE X) : PS_saw (RE X GG) := by
  intro I J A B T M I1 J1 A1 B1 hr
  refine fin_5 ?_
  obtain ⟨k, hk, ek, e1⟩ := wk_2 hr.1
  unfold sX7_saw sX8_saw
  have hl3 : 0 ≤ (A 15 3).toInt ∧ (A 15 3).toInt ≤ 10 := (hr.1.2.2.2.2.2.1.1 3 (by decide)).2
  obtain ⟨Ia, Aa, q1, q2, q3, q4⟩ := rd_7 (J := J) (B := B) hr.1
  have a15 : Aa 15 = A 15 := q3 15 (by decide) (by decide) (by decide)
  refine rl_bind q1 (rl_gv ?_)
  generalize hAb : va_up Aa 51 (fillA 48 (Aa 15 (ix 0)) (Aa 51)) = Ab
  have hAbo : ∀ b, ¬ b = 51 → Ab b = Aa b := fun b hb => by subst hAb; exact va_up_ne _ _ hb
  have bx : ∀ b, ¬ b = 51 → ¬ b = 55 → ¬ b = 56 → Ab b = A b := fun b b1 b2 b3 => by rw [hAbo b b1]; exact q3 b b1 b2 b3
  have hs2 : SR X GG Ia Ab T (A1 1) := SR_ext hX (fun q q1' q2' => q2 q (by omega)) (fun a k1 k2 j => by rw [bx a (by omega) (by omega) (by omega)]) (fun _ _ => rfl) hr.1
  have b15 : Ab 15 = A 15 := bx 15 (by decide) (by decide) (by decide)
  have b13 : Ab 13 = Aa 13 := hAbo 13 (by decide)
  have h51 : ∀ j, j < 48 → (Ab 51 j).toInt = (fun _ => (Ab 15 0).toInt) j := fun j hj => by
    rw [b15]
    subst hAb
    rw [va_up_self]
    show (if j < 48 then Aa 15 0 else Aa 51 j).toInt = (A 15 0).toInt
    rw [if_pos hj, a15]
  have h55 : ∀ t, t < 6 → (Ab 55 t).toInt = aS (fun s => (Ab 13 s).toInt) t := by rw [hAbo 55 (by decide), b13]; exact q4.2.1
  have h56 : ∀ t, t < 6 → (Ab 56 t).toInt = lS (fun s => (Ab 13 s).toInt) t := by rw [hAbo 56 (by decide), b13]; exact q4.2.2.1
  have h57 : (Ia 57).toInt = (Ab 15 2).toInt * (10 - (Ab 15 3).toInt) := by rw [q4.2.2.2, a15, b15]
  have eka : Ia 32 = nI k := (q2 32 (by decide)).trans ek
  obtain ⟨-, es, n0, hn0, en0, -⟩ := hs2.2.2.2.2.2.2.2.1 1 (by decide)
  have en0 : Ia 35 = nI n0 := en0
  have hn0 : n0 ≤ 60 := hn0
  have kn0 : A1 1 1635 = nI n0 := es.symm.trans en0
  -- the reference's row, all welded
  obtain ⟨A2, s1, s2, s3⟩ := sa_8 (I1 := I1) (J1 := J1) (A1 := A1) (B1 := B1)
  refine rr_bind s1 ?_
  have h21 : A2 1 = A1 1 := s2 1 (by decide)
  obtain ⟨A3, u1, u2, u3⟩ := s6_8 (W := Ab 15 0) (V := Ab 15 1) (K := A1 1) (I1 := I1) (J1 := J1) (B1 := B1) FU 0 A2 (by unfold FU; omega) (by omega) (fun i _ => by rw [h21]) (fun j hj => by omega)
  have u1 : lX8_saw_6 FU 0 I1 J1 A2 B1 = some A3 := u1
  refine rr_bind u1 ?_
  have hhb := KW_h hs2 u3
  have hrs : ∀ w, w < k → RS (eS (fun _ => (Ab 15 0).toInt) (Ab 15 3).toInt Ab w 1) w 1 A3 := fun w hw => (KW_r hs2 eka hk u3 hw).1
  have hl3b : 0 ≤ (Ab 15 3).toInt ∧ (Ab 15 3).toInt ≤ 10 := by rw [b15]; exact hl3
  obtain ⟨⟨x, I4, J4, A4, B4⟩, v1, v2, v3, v4, v5⟩ := fa_7 (J := J) (B := B) hX hs2 eka hk hhb hl3b ⟨h51, h55, h56, h57⟩ (-1431655766)
  refine rl_bind v1 ?_
  obtain ⟨⟨y, I5, J5, A5, B5⟩, g1, g2, g3, g4, -⟩ := fy_8 (I1 := I1) (J1 := J1) (B1 := B1) hk hrs ((u3.1 1633 (by decide)).trans e1)
  refine rr_bind g1 ?_
  have v3 : ∀ q, ¬ q = 54 → I4 q = Ia q := v3
  have v4 : ∀ b, ¬ b = 60 → ¬ b = 61 → ¬ b = 63 → ¬ b = 64 → A4 b = Ab b := v4
  have g4 : ∀ b, ¬ b = 4 → ¬ b = 14 → A5 b = A3 b := g4
  have kw5 : KW (Ab 15 0) (Ab 15 1) (A1 1) (fun _ => (Ab 15 0).toInt) A5 := by
    have e : A5 1 = A3 1 := g4 1 (by decide) (by decide)
    unfold KW
    rw [e]
    exact u3
  have sw4 : SW7 (Ab 15 3).toInt k Ia Ab (fun _ => (Ab 15 0).toInt) I4 A4 := ⟨v3, fun b _ b2 b3 b4 b5 => v4 b b2 b3 b4 b5, by rw [v4 51 (by decide) (by decide) (by decide) (by decide)]; exact h51, v5⟩
  obtain ⟨a, b, m1, m2, ⟨Iz, Jz, Az, Bz⟩, z1, z2, z3, z4, z5, z6⟩ := sw_2 (I1 := I1) (A1 := A2) hX hs2 eka hk en0 hn0 h55 h56 h57 kn0 e1 FU 0 (fun _ => (Ab 15 0).toInt) x y I4 J4 A4 B4 I5 J5 A5 B5 (by unfold FU; omega) (by omega) sw4 kw5 g3 (fun b b1 b2 b3 => by rw [g4 b b2 b3]; exact u2 b b1) (bc_7 v2) g2
  have m1 : lX7_saw_38 FU x 0 I4 J4 A4 B4 = some a := m1
  have m2 : lX8_saw_34 FU y (-1) 0 I5 J5 A5 B5 = some b := m2
  obtain ⟨b1, b2, b3, b4, b5⟩ := b
  obtain ⟨A6, w1, w2, w3⟩ := re_8 (I1 := b2) (J1 := b3) (A1 := b4) (B1 := b5)
  have z5 : ∀ c, ¬ c = 1 → ¬ c = 4 → ¬ c = 14 → b4 c = A2 c := z5
  have hre : RE X GG Iz Jz Az Bz T M b2 b3 A6 b5 := by
    refine RE_br hX (fun q hq => (z2 q (by omega)).trans (q2 q (by omega))) (fun c hc => (z3 c (by omega) (by omega) (by omega) (by omega) (by omega)).trans (bx c (by omega) (by omega) (by omega))) (fun q hq => z4 q (by omega) (by omega)) (fun c hc => ?_) hr
    by_cases y1 : c = 1
    · subst y1
      funext i
      rw [w3 i]
      by_cases y2 : 48 ≤ i ∧ i < 144
      · rw [if_pos y2, z5 39 (by decide) (by decide) (by decide), s3 _ (by omega), show 48 + (i - 48) = i by omega]
      · rw [if_neg y2]; exact z6 i y2
    · rw [w2 c y1, z5 c y1 (by omega) (by omega)]; exact s2 c (by omega)
  rcases z1 with ⟨rfl, z1⟩ | ⟨v, rfl, z1⟩
  · have z1 : b1 = -1 := z1
    subst z1
    exact rl_bind m1 (rr_bind m2 (rr_bind w1 (rb_some ⟨rfl, hre⟩)))
  · have z1 : b1 = v := z1
    subst z1
    exact rl_bind m1 (rr_bind m2 (rr_bind w1 (rb_some ⟨rfl, hre⟩)))
end U5
