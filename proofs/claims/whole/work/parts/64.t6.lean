section T7
variable {X : Txt → Int32 → (Nat → Int32) → (Nat → Int32) → Prop} {I I' I1 I1' : Nat → Int32} {J J' J1 J1' : Nat → Int64} {A A' A1 A1' : Nat → Nat → Int32} {B B' B1 B1' : Nat → Nat → Int64} {T : Nat → Option Txt} {M : Nat → Option Img} {K : Nat → Int32} {h : Nat → Int} {lg : Int} {k j : Nat}
theorem hold_9 {b q W V : Int32} (hj : j < 48) (h1 : A1 1 (48 + j) = b) (h2 : A1 1 (96 + j) = q) (h3 : A1 1 156 = W) (h4 : A1 1 157 = V) : sX8_holdsOf (nI j) I1 J1 A1 B1 = some (if b = 0 then W else V + (W - V) * q / 4) := by
  have t0 : sX8_term 0 I1 J1 A1 B1 = some W := by rw [← h3]; exact term_8 (k := 0) (by decide)
  have t1 : sX8_term 1 I1 J1 A1 B1 = some V := by rw [← h4]; exact term_8 (k := 1) (by decide)
  unfold sX8_holdsOf
  rw [show (48 : Int32) + nI j = nI (48 + j) from nI_add 48 j, show (96 : Int32) + nI j = nI (96 + j) from nI_add 96 j, ck, if_pos (inB_n (by omega) (by decide)), ix_n (show 48 + j < 2 ^ 31 by omega), ix_n (show 96 + j < 2 ^ 31 by omega), h1, h2, t0, t1]
  by_cases h : b = 0
  · rw [if_pos h, if_pos h]; rfl
  · rw [if_neg h, if_neg h]
    show ck _ _ = _
    rw [ck, if_pos (inB_n (by omega) (by decide))]
theorem fa_2 (hs : SR X GG I A T K) (ek : I 32 = nI k) (hk : k ≤ 16) (hh : ∀ j, j < 48 → 0 ≤ h j ∧ h j ≤ 100000) (hl : 0 ≤ lg ∧ lg ≤ 10) (hy : RY h lg I A) (hX : XE X) (hrs : ∀ w, w < k → RS (eS h lg A w 1) w 1 A1) (e1 : A1 1 1633 = nI k) (hway : ∀ w, w < k → ∃ y, y < 8 ∧ A1 1 (165 + 3 * w) = nI y ∧ A 31 (w * 3) = nI y) {x1 x2 x3 : Int32} : ∀ (n p : Nat) (J : Nat → Int64) (A' : Nat → Nat → Int32) (B : Nat → Nat → Int64) (J1 : Nat → Int64) (A1' : Nat → Nat → Int32) (B1 : Nat → Nat → Int64), 48 < p + n → p ≤ 48 → (∀ a, ¬ a = 64 → A' a = A a) → (∀ a, ¬ a = 4 → A1' a = A1 a) → RB (lX1_facesAreEnoughForAll_2 n (nI p) I J A' B) (lX8_move_36 n x1 x2 x3 1 (nI p) I1 J1 A1' B1) (fun a b => ((∃ z : (Nat → Int64) × (Nat → Nat → Int32) × (Nat → Nat → Int64), (∀ c, ¬ c = 64 → z.2.1 c = A c) ∧ ((a = .inr z ∧ b.1 = 1) ∨ (a = .inl z ∧ b.1 = 0)))) ∧ ∀ c, ¬ c = 4 → b.2.2.1 c = A1 c) := by
  intro n
  induction n with
  | zero => intro p J A' B J1 A1' B1 h1 h2; omega
  | succ n ih =>
    intro p J A' B J1 A1' B1 h1 h2 hA hA1
    rw [lX1_facesAreEnoughForAll_2, lX8_move_36]
    by_cases hp : p = 48
    · subst hp
      exact rl_t (by decide) (rr_t (by decide) (rb_some ⟨⟨_, hA, Or.inl ⟨rfl, rfl⟩⟩, hA1⟩))
    · have hle : ¬ (48 : Int32) ≤ nI p := by rw [show (48 : Int32) = nI 48 from rfl, nn_le (by decide) (by omega)]; omega
      refine rl_f hle (rr_f hle (rr_f (by decide) ?_))
      obtain ⟨⟨r, J2, A2, B2⟩, p1, p2, p3⟩ := en_7 (J := J) (B := B) (A' := A') (j := p) hs ek hk hh hl hy hX (by omega) hA
      have h11 : A1' 1 = A1 1 := hA1 1 (by decide)
      obtain ⟨⟨r', J3, A3, B3⟩, s1, s2, s3⟩ := en_8 (I1 := I1) (J1 := J1) (B1 := B1) (A1 := A1') (j := p) hs ek hk hh hl (fun w hw => RS_x (hrs w hw) h11) (by rw [h11]; exact e1) (by rw [h11]; exact hway) (by omega)
      refine rl_bind p1 (rr_bind s1 (rr_gv ?_))
      have p2 : r = if dec (PW h lg A p) (ev A) k = true then 1 else 0 := p2
      have s2 : r' = if dec (PW h lg A p) (ev A) k = true then 1 else 0 := s2
      have hA3 : ∀ c, ¬ c = 4 → A3 c = A1 c := fun c hc => (s3 c hc).trans (hA1 c hc)
      show RB (if r = 0 then _ else _) (lX8_move_36 n x1 x2 x3 r' (nI p + 1) I1 J3 A3 B3) _
      rw [p2, s2, nI_1]
      by_cases q : dec (PW h lg A p) (ev A) k = true
      · rw [if_pos q]
        refine rl_f (by decide) (rl_gv ?_)
        exact ih (p + 1) J2 A2 B2 J3 A3 B3 (by omega) (by omega) p3 hA3
      · rw [if_neg q]
        refine rl_t rfl ?_
        obtain ⟨m, rfl⟩ : ∃ m, n = m + 1 := ⟨n - 1, by omega⟩
        rw [lX8_move_36]
        have fin : RB (some (.inl (J2, A2, B2)) : Option (((Nat → Int64) × (Nat → Nat → Int32) × (Nat → Nat → Int64)) ⊕ ((Nat → Int64) × (Nat → Nat → Int32) × (Nat → Nat → Int64)))) (some ((0 : Int32), J3, A3, B3)) (fun a b => ((∃ z : (Nat → Int64) × (Nat → Nat → Int32) × (Nat → Nat → Int64), (∀ c, ¬ c = 64 → z.2.1 c = A c) ∧ ((a = .inr z ∧ b.1 = 1) ∨ (a = .inl z ∧ b.1 = 0)))) ∧ ∀ c, ¬ c = 4 → b.2.2.1 c = A1 c) := rb_some ⟨⟨_, p3, Or.inr ⟨rfl, rfl⟩⟩, hA3⟩
        by_cases c : (48 : Int32) ≤ nI (p + 1)
        · exact rr_t c fin
        · exact rr_f c (rr_t rfl fin)
theorem mv_2 (hX : XE X) (hs : SR X GG I A T (A1 1)) (ek : I 32 = nI k) (hk : k ≤ 16) (e1 : A1 1 1633 = nI k) (hy0 : RY (fun j => (hdf A j).toInt) (A 15 3).toInt I A) {x1 : Int32} : ∀ (n g : Nat) (I' : Nat → Int32) (J : Nat → Int64) (A' : Nat → Nat → Int32) (B : Nat → Nat → Int64) (J1 : Nat → Int64) (A1' : Nat → Nat → Int32) (B1 : Nat → Nat → Int64), 11 < g + n → g ≤ 11 → (∀ c, ¬ c = 57 → I' c = I c) → (∀ a, ¬ a = 64 → A' a = A a) → (∀ a, ¬ a = 1 → ¬ a = 4 → A1' a = A1 a) → (∀ i, ¬ i = 159 → A1' 1 i = A1 1 i) → RB (lX7_move_17 n (nI g) I' J A' B) (lX8_move_10 n x1 (-1) (nI g) I1 J1 A1' B1) (fun a b => (∃ z : (Nat → Int32) × (Nat → Int64) × (Nat → Nat → Int32) × (Nat → Nat → Int64), (∀ c, ¬ c = 57 → z.1 c = I c) ∧ (∀ c, ¬ c = 64 → z.2.2.1 c = A c) ∧ ((a = .inr z ∧ b.1 = -1) ∨ ∃ v, a = .inl (v, z) ∧ b.1 = v)) ∧ (∀ c, ¬ c = 1 → ¬ c = 4 → b.2.2.1 c = A1 c) ∧ ∀ i, ¬ i = 159 → b.2.2.1 1 i = A1 1 i) := by
  have hh : ∀ j, j < 48 → 0 ≤ (fun j => (hdf A j).toInt) j ∧ (fun j => (hdf A j).toInt) j ≤ 100000 := fun j hj => by
    have := hd_v hs hj
    show 0 ≤ (hdf A j).toInt ∧ (hdf A j).toInt ≤ 100000
    omega
  intro n
  induction n with
  | zero => intro g I' J A' B J1 A1' B1 h1 h2; omega
  | succ n ih =>
    intro g I' J A' B J1 A1' B1 h1 h2 hI hA hA1 hK
    rw [lX7_move_17, lX8_move_10]
    by_cases hg : g = 11
    · subst hg
      exact rl_t (by decide) (rr_t (by decide) (rb_some ⟨⟨(I', J, A', B), hI, hA, Or.inl ⟨rfl, rfl⟩⟩, hA1, hK⟩))
    · have hle : ¬ (10 : Int32) < nI g := by rw [show (10 : Int32) = nI 10 from rfl, nn_lt (by decide) (by omega)]; omega
      refine rl_f hle (rr_f hle (rr_t rfl (rr_gv ?_)))
      obtain ⟨v, v1, v2⟩ := sl_7 (I := I') (J := J) (A := A') (B := B) hs (hA 15 (by decide)) (x := nI g) (lg := (g : Int)) (nI_toInt (by omega)) (by omega)
      refine rl_bind v1 ?_
      have hI2 : ∀ c, ¬ c = 57 → upd I' 57 v c = I c := fun c hc => by rw [upd_n _ _ hc]; exact hI c hc
      have hs2 : SR X GG (upd I' 57 v) A' T (A1 1) := SR_ext hX (fun c c1 c2 => hI2 c (by omega)) (fun a c1 c2 j => by rw [hA a (by omega)]) (fun _ _ => rfl) hs
      have ek2 : upd I' 57 v 32 = nI k := (hI2 32 (by decide)).trans ek
      have hy : RY (fun j => (hdf A j).toInt) (g : Int) (upd I' 57 v) A' := by
        obtain ⟨y1, y2, y3, -⟩ := hy0
        refine ⟨?_, ?_, ?_, ?_⟩
        · rw [hA 51 (by decide)]; exact y1
        · rw [hA 55 (by decide), hA 13 (by decide)]; exact y2
        · rw [hA 56 (by decide), hA 13 (by decide)]; exact y3
        · rw [upd_s]; exact v2
      have hk2 : ∀ i, ¬ i = 159 → va_up A1' 1 (upd (A1' 1) (ix 159) (nI g)) 1 i = A1 1 i := fun i hi => by
        rw [va_up_self]
        show upd (A1' 1) 159 (nI g) i = A1 1 i
        rw [upd_n _ _ hi]
        exact hK i hi
      have hrs : ∀ w, w < k → RS (eS (fun j => (hdf A j).toInt) (g : Int) A' w 1) w 1 (va_up A1' 1 (upd (A1' 1) (ix 159) (nI g))) := fun w hw => by
        refine rs_of hs2 ek2 hk hw hh (by omega) (fun i _ h2 => hk2 i h2) (fun j hj => ?_) ?_
        · refine ⟨hdf A j, rfl, fun I J B => ?_⟩
          rw [hold_9 hj (hk2 _ (by omega)) (hk2 _ (by omega)) (hk2 156 (by omega)) (hk2 157 (by omega))]
          unfold hdf
          rw [← (hs.2.1 j hj).1, ← (hs.2.2.1 j hj).1, ← (hs.2.2.2.2.2.1.1 0 (by decide)).1, ← (hs.2.2.2.2.2.1.1 1 (by decide)).1]
        · rw [va_up_self]
          show (upd (A1' 1) 159 (nI g) 159).toInt = (g : Int)
          rw [upd_s, nI_toInt (by omega)]
      obtain ⟨a, b, f1, f2, ⟨⟨Jz, Az, Bz⟩, fz, fo⟩, f3⟩ := fa_2 (I1 := I1) (x1 := x1) (x2 := -1) (x3 := nI g) hs2 ek2 hk hh (by omega) hy hX hrs (hk2 1633 (by decide) ▸ e1) (wy_2 hs2 ek2 hk (fun i i1 i2 => hk2 i (by omega))) FU 0 J A' B J1 _ B1 (by unfold FU; omega) (by omega) (fun _ _ => rfl) (fun _ _ => rfl)
      have f1 : lX1_facesAreEnoughForAll_2 FU 0 (upd I' 57 v) J A' B = some a := f1
      have f2 : lX8_move_36 FU x1 (-1) (nI g) 1 0 I1 J1 (va_up A1' 1 (upd (A1' 1) (ix 159) (nI g))) B1 = some b := f2
      obtain ⟨b1, b2, b3, b4⟩ := b
      have fz2 : ∀ c, ¬ c = 64 → Az c = A c := fun c hc => (fz c hc).trans (hA c hc)
      have g1 : ∀ c, ¬ c = 1 → ¬ c = 4 → b3 c = A1 c := fun c c1 c2 => (f3 c c2).trans ((va_up_ne _ _ c1).trans (hA1 c c1 c2))
      have g2 : ∀ i, ¬ i = 159 → b3 1 i = A1 1 i := fun i hi => by
        rw [show b3 1 = _ from f3 1 (by decide)]
        exact hk2 i hi
      rcases fo with ⟨rfl, fo⟩ | ⟨rfl, fo⟩
      · have fo : b1 = 1 := fo
        subst fo
        refine rl_bind (a := ((1 : Int32), Jz, Az, Bz)) (by unfold sX1_facesAreEnoughForAll; rw [f1]; rfl) ?_
        refine rr_bind f2 (rl_f (by decide) (rr_f (by decide) (rr_gv ?_)))
        obtain ⟨m, rfl⟩ : ∃ m, n = m + 1 := ⟨n - 1, by omega⟩
        rw [nI_1, lX8_move_10]
        have fin : RB (some (.inl (nI g, upd I' 57 v, Jz, Az, Bz)) : Option ((Int32 × (Nat → Int32) × (Nat → Int64) × (Nat → Nat → Int32) × (Nat → Nat → Int64)) ⊕ ((Nat → Int32) × (Nat → Int64) × (Nat → Nat → Int32) × (Nat → Nat → Int64)))) (some (nI g, b2, b3, b4)) (fun a b => (∃ z : (Nat → Int32) × (Nat → Int64) × (Nat → Nat → Int32) × (Nat → Nat → Int64), (∀ c, ¬ c = 57 → z.1 c = I c) ∧ (∀ c, ¬ c = 64 → z.2.2.1 c = A c) ∧ ((a = .inr z ∧ b.1 = -1) ∨ ∃ v, a = .inl (v, z) ∧ b.1 = v)) ∧ (∀ c, ¬ c = 1 → ¬ c = 4 → b.2.2.1 c = A1 c) ∧ ∀ i, ¬ i = 159 → b.2.2.1 1 i = A1 1 i) := rb_some ⟨⟨(upd I' 57 v, Jz, Az, Bz), hI2, fz2, Or.inr ⟨nI g, rfl, rfl⟩⟩, g1, g2⟩
        by_cases c : (10 : Int32) < nI (g + 1)
        · exact rr_t c fin
        · exact rr_f c (rr_f (nI_m1 (by omega)) fin)
      · have fo : b1 = 0 := fo
        subst fo
        refine rl_bind (a := ((0 : Int32), Jz, Az, Bz)) (by unfold sX1_facesAreEnoughForAll; rw [f1]; rfl) ?_
        refine rr_bind f2 (rl_t rfl (rr_t rfl (rl_gv (rr_gv ?_))))
        rw [nI_1]
        exact ih (g + 1) (upd I' 57 v) Jz Az Bz b2 b3 b4 (by omega) (by omega) hI2 fz2 g1 g2
theorem ps_move (hX : XE X) : PS_move (RE X GG) := by
  intro I J A B T M I1 J1 A1 B1 hr
  obtain ⟨k, hk, ek, e1⟩ := wk_2 hr.1
  have hb : RB (sX7_move I J A B) (sX8_move I1 J1 A1 B1) (fun a b => a.1 = b.1 ∧ RE X GG a.2.1 a.2.2.1 a.2.2.2.1 a.2.2.2.2 T M I1 b.2.1 b.2.2.1 b.2.2.2) := by
    unfold sX7_move sX8_move
    have hl3 : bt (A 15 3) 0 10 := (hr.1.2.2.2.2.2.1.1 3 (by decide)).2
    have e3 : A 15 3 = A1 1 159 := (hr.1.2.2.2.2.2.1.1 3 (by decide)).1
    obtain ⟨Ia, Aa, q1, q2, q3, q4⟩ := rd_7 (J := J) (B := B) hr.1
    have hsa : SR X GG Ia Aa T (A1 1) := SR_ext hX (fun k k1 k2 => q2 k (by omega)) (fun a k1 k2 j => by rw [q3 a (by omega) (by omega) (by omega)]) (fun _ _ => rfl) hr.1
    have eka : Ia 32 = nI k := (q2 32 (by decide)).trans ek
    have a15 : Aa 15 = A 15 := q3 15 (by decide) (by decide) (by decide)
    have hdx : ∀ j, hdf Aa j = hdf A j := fun j => by
      unfold hdf
      rw [q3 11 (by decide) (by decide) (by decide), q3 12 (by decide) (by decide) (by decide), a15]
    refine rl_bind q1 (rl_gv ?_)
    rw [show Aa 15 (ix 3) = A1 1 159 from (congrFun a15 3).trans e3]
    refine rr_bind (show sX8_term 3 I1 J1 A1 B1 = some (A1 1 159) from term_8 (k := 3) (by decide)) ?_
    obtain ⟨g, hg, eg⟩ := nI_of (x := A1 1 159) (by rw [← e3, i32_lt, show (0 : Int32).toInt = 0 from rfl]; omega)
    have hg10 : g ≤ 10 := by rw [e3, eg, bt, nI_toInt hg] at hl3; omega
    rw [eg]
    have hy0 : RY (fun j => (hdf Aa j).toInt) (Aa 15 3).toInt Ia Aa := by
      rw [show (fun j => (hdf Aa j).toInt) = (fun j => (hdf A j).toInt) from funext (fun j => by rw [hdx]), a15]
      exact q4
    obtain ⟨a, b, m1, m2, ⟨⟨Iz, Jz, Az, Bz⟩, z1, z2, z3⟩, m3, m4⟩ := mv_2 (I1 := I1) (x1 := nI g) hX hsa eka hk e1 hy0 FU g Ia J Aa B J1 A1 B1 (by unfold FU; omega) (by omega) (fun _ _ => rfl) (fun _ _ => rfl) (fun _ _ _ => rfl) (fun _ _ => rfl)
    obtain ⟨b1, b2, b3, b4⟩ := b
    have hre : RE X GG Iz Jz Az Bz T M I1 b2 (va_up b3 1 (upd (b3 1) (ix 159) (nI g))) b4 := by
      refine RE_br hX (fun k hk => (z1 k (by omega)).trans (q2 k (by omega))) (fun a ha => (z2 a (by omega)).trans (q3 a (by omega) (by omega) (by omega))) (fun _ _ => rfl) (fun a ha => ?_) hr
      by_cases c : a = 1
      · subst c
        rw [va_up_self]
        funext i
        show upd (b3 1) 159 (nI g) i = A1 1 i
        by_cases c : i = 159
        · subst c; rw [upd_s, eg]
        · rw [upd_n _ _ c]; exact m4 i c
      · rw [va_up_ne _ _ c]
        exact m3 a c (by omega)
    rcases z3 with ⟨rfl, z3⟩ | ⟨v, rfl, z3⟩
    · have z3 : b1 = -1 := z3
      subst z3
      exact rl_bind m1 (rr_bind m2 (rr_gv (rb_some ⟨rfl, hre⟩)))
    · have z3 : b1 = v := z3
      subst z3
      exact rl_bind m1 (rr_bind m2 (rr_gv (rb_some ⟨rfl, hre⟩)))
  obtain ⟨⟨r, I2, J2, A2, B2⟩, ⟨r', J3, A3, B3⟩, h1, h2, h3, h4⟩ := hb
  cases h3
  exact ⟨r, I2, J2, A2, B2, J3, A3, B3, h1, h2, h4⟩
end T7
