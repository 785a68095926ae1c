/-- the greatest of those that are asked for -/
def mx (P : Nat → Int) (s : Nat → Bool) : Nat → Option Int
  | 0 => none
  | n + 1 => if s n = true then (match mx P s n with
    | none => some (P n)
    | some m => some (if P n ≤ m then m else P n)) else mx P s n
theorem mx_s {P : Nat → Int} {s : Nat → Bool} : ∀ {n : Nat} {m : Int}, mx P s n = some m → (∀ w, w < n → s w = true → P w ≤ m) ∧ ∃ w, w < n ∧ s w = true ∧ P w = m := by
  intro n
  induction n with
  | zero => intro m h; cases h
  | succ n ih =>
    intro m h
    rw [mx] at h
    by_cases c : s n = true
    · rw [if_pos c] at h
      cases hm : mx P s n with
      | none =>
        rw [hm] at h
        cases h
        refine ⟨fun w hw hs => ?_, n, by omega, c, rfl⟩
        by_cases e : w = n
        · rw [e]; exact Int.le_refl _
        · exfalso
          have : ∀ q, q ≤ n → mx P s q = none → ∀ w, w < q → ¬ s w = true := by
            intro q
            induction q with
            | zero => intro _ _ w hw; omega
            | succ q ihq =>
              intro hq hn w hw hsw
              rw [mx] at hn
              by_cases d : s q = true
              · rw [if_pos d] at hn
                cases hz : mx P s q with
                | none => rw [hz] at hn; cases hn
                | some z => rw [hz] at hn; cases hn
              · rw [if_neg d] at hn
                by_cases e2 : w = q
                · rw [e2] at hsw; exact d hsw
                · exact ihq (by omega) hn w (by omega) hsw
          exact this n (Nat.le_refl _) hm w (by omega) hs
      | some z =>
        rw [hm] at h
        cases h
        obtain ⟨i1, w0, i2, i3, i4⟩ := ih hm
        refine ⟨fun w hw hs => ?_, ?_⟩
        · by_cases e : w = n
          · rw [e]; split <;> omega
          · have := i1 w (by omega) hs
            split <;> omega
        · by_cases d : P n ≤ z
          · rw [if_pos d]; exact ⟨w0, by omega, i3, i4⟩
          · rw [if_neg d]; exact ⟨n, by omega, c, rfl⟩
    · rw [if_neg c] at h
      obtain ⟨i1, w0, i2, i3, i4⟩ := ih h
      refine ⟨fun w hw hs => ?_, w0, by omega, i3, i4⟩
      by_cases e : w = n
      · rw [e] at hs; exact absurd hs c
      · exact i1 w (by omega) hs
theorem mx_n {P : Nat → Int} {s : Nat → Bool} : ∀ {n : Nat}, mx P s n = none → ∀ w, w < n → ¬ s w = true := by
  intro n
  induction n with
  | zero => intro _ w hw; omega
  | succ q ihq =>
    intro hn w hw hsw
    rw [mx] at hn
    by_cases d : s q = true
    · rw [if_pos d] at hn
      cases hz : mx P s q with
      | none => rw [hz] at hn; cases hn
      | some z => rw [hz] at hn; cases hn
    · rw [if_neg d] at hn
      by_cases e2 : w = q
      · rw [e2] at hsw; exact d hsw
      · exact ihq hn w (by omega) hsw
/-- faces are enough -/
def dec (P : Nat → Int) (s : Nat → Bool) (n : Nat) : Bool := match mx P (fun w => !(s w)) n with
  | none => true
  | some b => match mx P s n with
    | none => false
    | some a => decide (b ≤ a)
theorem dec_t {P : Nat → Int} {s : Nat → Bool} {n : Nat} : dec P s n = true ↔ ∀ w, w < n → s w = false → ∃ a, mx P s n = some a ∧ P w ≤ a := by
  unfold dec
  cases ho : mx P (fun w => !(s w)) n with
  | none =>
    refine ⟨fun _ w hw hs => ?_, fun _ => rfl⟩
    exact absurd (show (!(s w)) = true by rw [hs]; rfl) (mx_n ho w hw)
  | some b =>
    obtain ⟨h1, w0, h2, h3, h4⟩ := mx_s ho
    cases he : mx P s n with
    | none =>
      refine ⟨fun h => (by cases h), fun h => ?_⟩
      obtain ⟨a, ha, -⟩ := h w0 h2 (by simpa using h3)
      cases ha
    | some a =>
      refine ⟨fun h w hw hs => ⟨a, rfl, ?_⟩, fun h => ?_⟩
      · have := h1 w hw (by rw [hs]; rfl)
        have h5 := of_decide_eq_true h
        omega
      · obtain ⟨a', ha, h6⟩ := h w0 h2 (by simpa using h3)
        cases ha
        exact decide_eq_true (by omega)
/-- one flag and its greatest -/
def fl (o : Option Int) (x : Int32) (v : Int64) : Prop := (o = none → x = 0) ∧ ∀ m, o = some m → x = 1 ∧ v = lI m
theorem fl_0 : fl none 0 0 := ⟨fun _ => rfl, fun m h => by cases h⟩
section T5
variable {X : Txt → Int32 → (Nat → Int32) → (Nat → Int32) → Prop} {I I' I1 I1' : Nat → Int32} {J J' J1 J1' : Nat → Int64} {A A' A1 A1' : Nat → Nat → Int32} {B B' B1 B1' : Nat → Nat → Int64} {T : Nat → Option Txt} {M : Nat → Option Img} {K : Nat → Int32} {h : Nat → Int} {lg : Int} {k j : Nat}
/-- a wind blows on a face -/
def ev (A : Nat → Nat → Int32) (w : Nat) : Bool := decide (ix (A 31 (w * 3)) % 2 = 0)
/-- what a wind pulls at a joint -/
def PW (h : Nat → Int) (lg : Int) (A : Nat → Nat → Int32) (j w : Nat) : Int := pF (eS h lg A w 1) (fun _ => false) j
theorem PW_b (hs : SR X GG I A T K) (ek : I 32 = nI k) (hk : k ≤ 16) (hh : ∀ j, j < 48 → 0 ≤ h j ∧ h j ≤ 100000) (hl : 0 ≤ lg ∧ lg ≤ 10) (hj : j < 48) {w : Nat} (hw : w < k) : (PW h lg A j w).natAbs ≤ 22674816000000000 := pF_b (eS_b hs ek hk hw hh hl) hj
theorem mx_b (hs : SR X GG I A T K) (ek : I 32 = nI k) (hk : k ≤ 16) (hh : ∀ j, j < 48 → 0 ≤ h j ∧ h j ≤ 100000) (hl : 0 ≤ lg ∧ lg ≤ 10) (hj : j < 48) {s : Nat → Bool} {w : Nat} (hw : w ≤ k) {m : Int} (hm : mx (PW h lg A j) s w = some m) : m.natAbs ≤ 22674816000000000 := by
  obtain ⟨-, w0, h1, -, h2⟩ := mx_s hm
  rw [← h2]
  exact PW_b hs ek hk hh hl hj (by omega)
theorem of_7 (hs : SR X GG I A T K) (ek : I 32 = nI k) (hk : k ≤ 16) {w : Nat} (hw : w < k) (h31 : A' 31 = A 31) : sX4_isOnFace (nI w) I J A' B = some (if ev A w = true then 1 else 0) := by
  obtain ⟨⟨y, hy, ey, -⟩, -, -⟩ := wnd hs ek hk hw
  have c0 : sX5_cell 0 (nI w) 0 I J A' B = some (nI y) := by rw [← ey, ← h31]; exact cell_7 (n := 0) (k := k) (i := w) (c := 0) (by decide) (hs.2.2.2.2.2.2.2.1 0 (by decide)).1 ek hk hw (by decide)
  unfold sX4_isOnFace ev
  rw [c0, ey, ix_n (by omega)]
  show some (if nI y - nI y / 2 * 2 = 0 then (1 : Int32) else 0) = _
  rw [show nI y - nI y / (2 : Int32) * 2 = nI (y % 2) from pk_rem (by omega) (by decide) (by decide)]
  by_cases q : y % 2 = 0
  · rw [if_pos (by rw [q]; rfl), if_pos (decide_eq_true q)]
  · rw [if_neg (by rw [show (0 : Int32) = nI 0 from rfl, nI_eq (by omega) (by decide)]; exact q), if_neg (by simpa using q)]
theorem fe_7 (hs : SR X GG I A T K) (ek : I 32 = nI k) (hk : k ≤ 16) (hh : ∀ j, j < 48 → 0 ≤ h j ∧ h j ≤ 100000) (hl : 0 ≤ lg ∧ lg ≤ 10) (hy : RY h lg I A) (hX : XE X) (hj : j < 48) : ∀ (n w : Nat) (x2 x3 : Int32) (x4 x6 : Int64) (J : Nat → Int64) (A' : Nat → Nat → Int32) (B : Nat → Nat → Int64), k < w + n → w ≤ k → (∀ a, ¬ a = 64 → A' a = A a) → fl (mx (PW h lg A j) (ev A) w) x2 x4 → fl (mx (PW h lg A j) (fun w => !(ev A w)) w) x3 x6 → SP (lX1_facesAreEnough_13 n (nI j) x2 x3 x4 x6 (nI w) I J A' B) (fun a => fl (mx (PW h lg A j) (ev A) k) a.1 a.2.2.1 ∧ fl (mx (PW h lg A j) (fun w => !(ev A w)) k) a.2.1 a.2.2.2.1 ∧ ∀ b, ¬ b = 64 → a.2.2.2.2.2.1 b = A b) := by
  intro n
  induction n with
  | zero => intro w x2 x3 x4 x6 J A' B h1 h2; omega
  | succ n ih =>
    intro w x2 x3 x4 x6 J A' B h1 h2 hA f1 f2
    rw [lX1_facesAreEnough_13, ek]
    by_cases hwk : w = k
    · subst hwk
      exact sp_t ((nn_le (by omega) (by omega)).mpr (Nat.le_refl _)) (sp_some ⟨f1, f2, hA⟩)
    · have hw : w < k := by omega
      refine sp_f (by rw [nn_le (by omega) (by omega)]; omega) ?_
      have hs' : SR X GG I A' T K := SR_ext hX (fun _ _ _ => rfl) (fun a k1 k2 j => by rw [hA a (by omega)]) (fun _ _ => rfl) hs
      have hy' : RY h lg I A' := by
        unfold RY
        rw [hA 51 (by decide), hA 55 (by decide), hA 56 (by decide), hA 13 (by decide), hA 15 (by decide)]
        exact hy
      obtain ⟨J2, b1, b2⟩ := bw_s (J := J) (B := B) (c := 1) hs' ek hk hw (Or.inr rfl) hh hl hy'
      have ee : eS h lg A' w 1 = eS h lg A w 1 := eS_x (hA 10 (by decide)) (hA 14 (by decide)) (hA 13 (by decide)) (hA 31 (by decide)) (hA 15 (by decide))
      rw [ee] at b2
      refine sp_bind b1 ?_
      have hok : okF (eS h lg A w 1) (fun _ => false) (j / 8) = true := ok_0 b2.1 (by omega)
      obtain ⟨A2, B2, r1, r2, r3, r4⟩ := sd_7 (g := fun _ => false) (B := B) (gm := 0) b2 (show j / 8 < 6 by omega) (fun i _ => bb_0 i)
      rw [hok, if_pos rfl] at r1
      rw [show nI j / (8 : Int32) = nI (j / 8) from pk_div (by omega) (by decide) (by decide)]
      refine sp_bind r1 ?_
      refine sp_gv ?_
      refine sp_f (by decide) ?_
      obtain ⟨g1, g2, -⟩ := r4 hok (j / 2 % 4) (by omega)
      refine sp_bind (pl_7 hj (fun j h => by rw [r2 10 (by decide)]; exact b2.2.1 j h) g1 g2) ?_
      have hA2 : ∀ a, ¬ a = 64 → A2 a = A a := fun a ha => by rw [r2 a ha, hA a ha]
      refine sp_bind (of_7 hs ek hk hw (hA2 31 (by decide))) ?_
      have hpb := PW_b hs ek hk hh hl hj hw
      rw [nI_1, show lI (pF (eS h lg A w 1) (fun _ => false) j) = lI (PW h lg A j w) from rfl]
      cases hev : ev A w with
      | false =>
        have mE : mx (PW h lg A j) (ev A) (w + 1) = mx (PW h lg A j) (ev A) w := by rw [mx, if_neg (by rw [hev]; decide)]
        refine sp_t rfl ?_
        cases ho : mx (PW h lg A j) (fun w => !(ev A w)) w with
        | none =>
          have mO : mx (PW h lg A j) (fun w => !(ev A w)) (w + 1) = some (PW h lg A j w) := by rw [mx, if_pos (by rw [hev]; rfl), ho]
          refine sp_t (f2.1 ho) (sp_gv ?_)
          exact ih (w + 1) x2 1 x4 _ J2 A2 B2 (by omega) (by omega) hA2 (by rw [mE]; exact f1) (by rw [mO]; exact ⟨fun h => (by cases h), fun m h => by cases h; exact ⟨rfl, rfl⟩⟩)
        | some m =>
          obtain ⟨v1, v2⟩ := f2.2 m ho
          have hmb := mx_b hs ek hk hh hl hj (by omega) ho
          have mO : mx (PW h lg A j) (fun w => !(ev A w)) (w + 1) = some (if PW h lg A j w ≤ m then m else PW h lg A j w) := by rw [mx, if_pos (by rw [hev]; rfl), ho]
          refine sp_f (by rw [v1]; decide) ?_
          have hv : (if lI (PW h lg A j w) < x6 then x6 else lI (PW h lg A j w)) = lI (if PW h lg A j w ≤ m then m else PW h lg A j w) := by
            rw [v2]
            by_cases q : PW h lg A j w < m
            · rw [if_pos ((l_lt (by omega) (by omega)).mpr q), if_pos (by omega)]
            · rw [if_neg (fun z => q ((l_lt (by omega) (by omega)).mp z))]
              by_cases q2 : PW h lg A j w ≤ m
              · rw [if_pos q2]; congr 1; omega
              · rw [if_neg q2]
          refine sp_gvE hv (sp_gv ?_)
          exact ih (w + 1) x2 1 x4 _ J2 A2 B2 (by omega) (by omega) hA2 (by rw [mE]; exact f1) (by rw [mO]; exact ⟨fun h => (by cases h), fun m h => by cases h; exact ⟨rfl, rfl⟩⟩)
      | true =>
        have mO : mx (PW h lg A j) (fun w => !(ev A w)) (w + 1) = mx (PW h lg A j) (fun w => !(ev A w)) w := by rw [mx, if_neg (by rw [hev]; decide)]
        refine sp_f (by rw [if_pos rfl]; decide) ?_
        cases ho : mx (PW h lg A j) (ev A) w with
        | none =>
          have mE : mx (PW h lg A j) (ev A) (w + 1) = some (PW h lg A j w) := by rw [mx, if_pos hev, ho]
          refine sp_t (f1.1 ho) (sp_gv ?_)
          exact ih (w + 1) 1 x3 _ x6 J2 A2 B2 (by omega) (by omega) hA2 (by rw [mE]; exact ⟨fun h => (by cases h), fun m h => by cases h; exact ⟨rfl, rfl⟩⟩) (by rw [mO]; exact f2)
        | some m =>
          obtain ⟨v1, v2⟩ := f1.2 m ho
          have hmb := mx_b hs ek hk hh hl hj (by omega) ho
          have mE : mx (PW h lg A j) (ev A) (w + 1) = some (if PW h lg A j w ≤ m then m else PW h lg A j w) := by rw [mx, if_pos hev, ho]
          refine sp_f (by rw [v1]; decide) ?_
          have hv : (if lI (PW h lg A j w) < x4 then x4 else lI (PW h lg A j w)) = lI (if PW h lg A j w ≤ m then m else PW h lg A j w) := by
            rw [v2]
            by_cases q : PW h lg A j w < m
            · rw [if_pos ((l_lt (by omega) (by omega)).mpr q), if_pos (by omega)]
            · rw [if_neg (fun z => q ((l_lt (by omega) (by omega)).mp z))]
              by_cases q2 : PW h lg A j w ≤ m
              · rw [if_pos q2]; congr 1; omega
              · rw [if_neg q2]
          refine sp_gvE hv (sp_gv ?_)
          exact ih (w + 1) 1 x3 _ x6 J2 A2 B2 (by omega) (by omega) hA2 (by rw [mE]; exact ⟨fun h => (by cases h), fun m h => by cases h; exact ⟨rfl, rfl⟩⟩) (by rw [mO]; exact f2)
theorem en_7 (hs : SR X GG I A T K) (ek : I 32 = nI k) (hk : k ≤ 16) (hh : ∀ j, j < 48 → 0 ≤ h j ∧ h j ≤ 100000) (hl : 0 ≤ lg ∧ lg ≤ 10) (hy : RY h lg I A) (hX : XE X) (hj : j < 48) (hA : ∀ a, ¬ a = 64 → A' a = A a) : SP (sX1_facesAreEnough (nI j) I J A' B) (fun a => (a.1 = if dec (PW h lg A j) (ev A) k = true then 1 else 0) ∧ ∀ b, ¬ b = 64 → a.2.2.1 b = A b) := by
  unfold sX1_facesAreEnough
  obtain ⟨⟨x2, x3, x4, x6, J2, A2, B2⟩, q1, q2, q3, q4⟩ := fe_7 hs ek hk hh hl hy hX hj FU 0 0 0 0 0 J A' B (by unfold FU; omega) (by omega) hA fl_0 fl_0
  refine sp_bind q1 ?_
  refine sp_gv (sp_some ⟨?_, q4⟩)
  have q2 : fl (mx (PW h lg A j) (ev A) k) x2 x4 := q2
  have q3 : fl (mx (PW h lg A j) (fun w => !(ev A w)) k) x3 x6 := q3
  show (if x3 = 0 then (1 : Int32) else if x2 = 0 then 0 else if 0 < lg_cmp x6 x4 then 0 else 1) = _
  unfold dec
  cases ho : mx (PW h lg A j) (fun w => !(ev A w)) k with
  | none => rw [if_pos (q3.1 ho)]; rfl
  | some b =>
    obtain ⟨v1, v2⟩ := q3.2 b ho
    have hb := mx_b hs ek hk hh hl hj (Nat.le_refl _) ho
    rw [if_neg (by rw [v1]; decide)]
    cases he : mx (PW h lg A j) (ev A) k with
    | none => rw [if_pos (q2.1 he)]; rfl
    | some a =>
      obtain ⟨v3, v4⟩ := q2.2 a he
      have ha := mx_b hs ek hk hh hl hj (Nat.le_refl _) he
      rw [if_neg (by rw [v3]; decide), v2, v4]
      dsimp only
      by_cases q : b ≤ a
      · rw [if_neg (by rw [lg_cmp_gt, l_lt (by omega) (by omega)]; omega), if_pos (decide_eq_true q)]
      · rw [if_pos (by rw [lg_cmp_gt, l_lt (by omega) (by omega)]; omega), if_neg (by simpa using q)]
end T5
