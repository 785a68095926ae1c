section T1
variable {X : Txt → Int32 → (Nat → Int32) → (Nat → Int32) → Prop} {G : Nat → Nat → Int32 → Prop} {I I' I1 I1' : Nat → Int32} {J J' J1 J1' : Nat → Int64} {A A' A1 A1' : Nat → Nat → Int32} {B B' B1 B1' : Nat → Nat → Int64} {T : Nat → Option Txt} {M : Nat → Option Img} {K : Nat → Int32}
/-- Bearing's cells are bound to nothing -/
theorem RE_br (hX : XE X) (hI : ∀ k, ¬ (50 ≤ k ∧ k < 70) → I' k = I k) (hA : ∀ a, ¬ (50 ≤ a ∧ a < 70) → A' a = A a) (hI1 : ∀ k, k = 0 ∨ k = 20 ∨ k = 21 ∨ k = 41 ∨ k = 45 → I1' k = I1 k) (hA1 : ∀ a, a = 1 ∨ a = 2 ∨ a = 3 ∨ a = 17 ∨ a = 18 ∨ a = 40 ∨ a = 44 → A1' a = A1 a) (h : RE X G I J A B T M I1 J1 A1 B1) : RE X G I' J' A' B' T M I1' J1' A1' B1' := by
  obtain ⟨h1, h2, h3, h4, h5, h6, h7, h8⟩ := h
  refine ⟨SR_ext hX (fun k k1 k2 => hI k (by omega)) (fun a k1 k2 j => by rw [hA a (by omega)]) (fun j _ => by rw [hA1 1 (by omega)]) h1, fun k hk => ?_, ?_, ?_, ?_, ?_, ?_, ?_⟩
  · rw [hA1 3 (by omega), hA1 2 (by omega)]; exact h2 k hk
  · rw [hI 7 (by omega), hI1 20 (by omega), hA 6 (by omega), hA1 18 (by omega)]; exact h3
  · rw [hI 73 (by omega), hI1 41 (by omega), hA 72 (by omega), hA1 40 (by omega)]; exact h4
  · rw [hI 75 (by omega), hI1 45 (by omega), hA 74 (by omega), hA1 44 (by omega)]; exact h5
  · rw [hI 8 (by omega), hI1 21 (by omega)]; exact h6
  · rw [hI 9 (by omega), hI1 0 (by omega)]; exact h7
  · rw [hA1 17 (by omega)]; exact h8
/-- a wind's row -/
theorem wnd (h : SR X GG I A T K) {k w : Nat} (ek : I 32 = nI k) (hk : k ≤ 16) (hw : w < k) : (∃ y, y < 8 ∧ A 31 (w * 3) = nI y ∧ K (165 + 3 * w) = nI y) ∧ (A 31 (w * 3 + 1) = K (165 + 3 * w + 1) ∧ bt (A 31 (w * 3 + 1)) 1 100) ∧ (A 31 (w * 3 + 2) = K (165 + 3 * w + 2) ∧ bt (A 31 (w * 3 + 2)) 1 1000000) := by
  obtain ⟨-, -, k2, hk2, ek2, hc⟩ := h.2.2.2.2.2.2.2.1 0 (by decide)
  have e : k2 = k := by
    have e3 : nI k2 = nI k := ek2.symm.trans ek
    have hk2 : k2 ≤ 16 := hk2
    have := congrArg Int32.toNatClampNeg e3
    rw [nI_clamp (by omega), nI_clamp (by omega)] at this
    exact this
  subst e
  have hc2 : ∀ j, j < k2 * 3 → A 31 j = K (165 + j) ∧ GG 0 (j % 3) (A 31 j) := fun j hj => hc j hj (fun h => absurd h (by decide))
  have c0 := hc2 (w * 3) (by omega)
  have c1 := hc2 (w * 3 + 1) (by omega)
  have c2 := hc2 (w * 3 + 2) (by omega)
  rw [show w * 3 % 3 = 0 by omega] at c0
  rw [show (w * 3 + 1) % 3 = 1 by omega] at c1
  rw [show (w * 3 + 2) % 3 = 2 by omega] at c2
  have g0 : bt (A 31 (w * 3)) 0 7 := c0.2
  obtain ⟨y, hy, ey⟩ := nI_of (x := A 31 (w * 3)) (by rw [i32_lt, show (0 : Int32).toInt = 0 from rfl]; omega)
  have hy7 : y < 8 := by rw [ey, bt, nI_toInt hy] at g0; omega
  refine ⟨⟨y, hy7, ey, ?_⟩, ⟨?_, c1.2⟩, ⟨?_, c2.2⟩⟩
  · rw [← ey, c0.1]; congr 1; omega
  · rw [c1.1]; congr 1; omega
  · rw [c2.1]; congr 1; omega
end T1
def pt (A : Nat → Nat → Int32) (c : Int32) : Int := if c = 1 then 100 - (A 15 4).toInt else 100
/-- the numbers of a wind, out of what stands; h: what joints hold, lg: the leg -/
def eS (h : Nat → Int) (lg : Int) (A : Nat → Nat → Int32) (w : Nat) (c : Int32) : Nat → Nat → Int := fun k i => match k with
  | 0 => (A 10 i).toInt
  | 1 => h i
  | 2 => (A 14 i).toInt
  | 3 => aS (fun s => (A 13 s).toInt) i
  | 4 => lS (fun s => (A 13 s).toInt) i
  | _ => match i with
    | 0 => (A 31 (w * 3 + 1)).toInt * pt A c * (sv_3 (ix (A 31 (w * 3)))).toInt
    | 1 => (A 31 (w * 3 + 1)).toInt * pt A c * (sv_4 (ix (A 31 (w * 3)))).toInt
    | _ => (A 15 2).toInt * (10 - lg)
theorem sv_b : ∀ y, y < 8 → (sv_3 y).toInt.natAbs ≤ 10 ∧ (sv_4 y).toInt.natAbs ≤ 10 := by decide +kernel
theorem aS_b {f : Nat → Int} (h : ∀ s, s < 6 → 0 ≤ f s ∧ f s ≤ 20) : ∀ t, t < 6 → (0 ≤ aS f t ∧ aS f t ≤ 120) ∧ (0 ≤ lS f t ∧ lS f t ≤ 420) := by
  have h0 := h 0 (by decide)
  have h1 := h 1 (by decide)
  have h2 := h 2 (by decide)
  have h3 := h 3 (by decide)
  have h4 := h 4 (by decide)
  have h5 := h 5 (by decide)
  intro t ht
  match t, ht with
  | 0, _ => simp only [aS, lS, aD, lD, Nat.reduceSub]; omega
  | 1, _ => simp only [aS, lS, aD, lD, Nat.reduceSub]; omega
  | 2, _ => simp only [aS, lS, aD, lD, Nat.reduceSub]; omega
  | 3, _ => simp only [aS, lS, aD, lD, Nat.reduceSub]; omega
  | 4, _ => simp only [aS, lS, aD, lD, Nat.reduceSub]; omega
  | 5, _ => simp only [aS, lS, aD, lD, Nat.reduceSub]; omega
  | t + 6, ht => omega
section T2
variable {X : Txt → Int32 → (Nat → Int32) → (Nat → Int32) → Prop} {I I' I1 I1' : Nat → Int32} {J J' J1 J1' : Nat → Int64} {A A' A1 A1' : Nat → Nat → Int32} {B B' B1 B1' : Nat → Nat → Int64} {T : Nat → Option Txt} {M : Nat → Option Img} {K : Nat → Int32} {h : Nat → Int} {lg : Int} {c : Int32} {k w : Nat}
theorem pt_b (hs : SR X GG I A T K) : 0 ≤ pt A c ∧ pt A c ≤ 100 := by
  have h4 : bt (A 15 4) 0 50 := (hs.2.2.2.2.2.1.1 4 (by decide)).2
  unfold pt
  split <;> omega
theorem eS_b (hs : SR X GG I A T K) (ek : I 32 = nI k) (hk : k ≤ 16) (hw : w < k) (hh : ∀ j, j < 48 → 0 ≤ h j ∧ h j ≤ 100000) (hl : 0 ≤ lg ∧ lg ≤ 10) : EB (eS h lg A w c) := by
  obtain ⟨⟨y, hy, ey, -⟩, ⟨-, hf⟩, -⟩ := wnd hs ek hk hw
  have hp := pt_b (c := c) hs
  have ha := aS_b (f := fun s => (A 13 s).toInt) (fun s q => (hs.2.2.2.1 s q).2)
  have hv := sv_b y hy
  have h2 : bt (A 15 2) 0 100 := (hs.2.2.2.2.2.1.1 2 (by decide)).2
  refine ⟨fun j hj => (hs.1 j hj).2, hh, fun t ht => (hs.2.2.2.2.1 t ht).2, fun t ht => (ha t ht).1, fun t ht => (ha t ht).2, ?_, ?_, ?_⟩
  · show ((A 31 (w * 3 + 1)).toInt * pt A c * (sv_3 (ix (A 31 (w * 3)))).toInt).natAbs ≤ 100000
    rw [ey, ix_n (by omega)]
    exact ab_mul (m := 10000) (n := 10) (ab_mul (m := 100) (n := 100) (by omega) (by omega)) hv.1
  · show ((A 31 (w * 3 + 1)).toInt * pt A c * (sv_4 (ix (A 31 (w * 3)))).toInt).natAbs ≤ 100000
    rw [ey, ix_n (by omega)]
    exact ab_mul (m := 10000) (n := 10) (ab_mul (m := 100) (n := 100) (by omega) (by omega)) hv.2
  · have : ((A 15 2).toInt * (10 - lg)).natAbs ≤ 1000 := ab_mul (m := 100) (n := 10) (by omega) (by omega)
    have h3 : 0 ≤ (A 15 2).toInt * (10 - lg) := Int.mul_nonneg (by omega) (by omega)
    show 0 ≤ (A 15 2).toInt * (10 - lg) ∧ (A 15 2).toInt * (10 - lg) ≤ 1000
    omega
/-- the class is ready -/
def RY (h : Nat → Int) (lg : Int) (I : Nat → Int32) (A : Nat → Nat → Int32) : Prop := (∀ j, j < 48 → (A 51 j).toInt = h j) ∧ (∀ t, t < 6 → (A 55 t).toInt = aS (fun s => (A 13 s).toInt) t) ∧ (∀ t, t < 6 → (A 56 t).toInt = lS (fun s => (A 13 s).toInt) t) ∧ (I 57).toInt = (A 15 2).toInt * (10 - lg)
theorem bw_s (hs : SR X GG I A T K) (ek : I 32 = nI k) (hk : k ≤ 16) (hw : w < k) (hc : c = 0 ∨ c = 1) (hh : ∀ j, j < 48 → 0 ≤ h j ∧ h j ≤ 100000) (hl : 0 ≤ lg ∧ lg ≤ 10) (hy : RY h lg I A) : ∃ J2, sX1_blow (nI w) c I J A B = some J2 ∧ BS (eS h lg A w c) I J2 A := by
  have ew : I 30 = nI 3 := (hs.2.2.2.2.2.2.2.1 0 (by decide)).1
  obtain ⟨⟨y, hy8, ey, -⟩, ⟨-, hf⟩, -⟩ := wnd hs ek hk hw
  have hp := pt_b (c := c) hs
  have h4 : bt (A 15 4) 0 50 := (hs.2.2.2.2.2.1.1 4 (by decide)).2
  have c0 : sX5_cell 0 (nI w) 0 I J A B = some (nI y) := by rw [← ey]; exact cell_7 (n := 0) (k := k) (i := w) (c := 0) (by decide) ew ek hk hw (by decide)
  have c1 : sX5_cell 0 (nI w) 1 I J A B = some (A 31 (w * 3 + 1)) := cell_7 (n := 0) (k := k) (i := w) (c := 1) (by decide) ew ek hk hw (by decide)
  have ea : nI y &&& (7 : Int32) = nI y := by
    rw [pk_andN (by omega) 3 (by decide +kernel), Nat.mod_eq_of_lt hy8]
  have hp32 : (if c = 1 then 100 - A 15 4 else 100 : Int32).toInt = pt A c := by
    unfold pt
    by_cases q : c = 1
    · rw [if_pos q, if_pos q]; exact i_sub (show (100 : Int32).toInt = 100 from rfl) rfl (by omega)
    · rw [if_neg q, if_neg q]; rfl
  have hsp : SP (sX1_blow (nI w) c I J A B) (fun J2 => J2 58 = lI (eS h lg A w c 5 0) ∧ J2 59 = lI (eS h lg A w c 5 1)) := by
    unfold sX1_blow
    refine sp_bind c0 ?_
    refine sp_gvE ea ?_
    refine sp_gv ?_
    refine sp_bind c1 ?_
    have hx : (A 31 (w * 3 + 1)).toInt64 * (if c = 1 then 100 - A 15 (ix 4) else 100 : Int32).toInt64 = lI ((A 31 (w * 3 + 1)).toInt * pt A c) := by
      rw [show A 15 (ix 4) = A 15 4 from rfl, l_mul, l_32 (show (A 31 (w * 3 + 1)).toInt = (A 31 (w * 3 + 1)).toInt from rfl), l_32 hp32]
    refine sp_gvE hx ?_
    rw [ix_n (show y < 2 ^ 31 by omega)]
    refine sp_ck (inB_n hy8 (by decide)) ?_
    refine sp_gv ?_
    refine sp_ck (inB_n hy8 (by decide)) ?_
    refine sp_gv (sp_some ⟨?_, ?_⟩)
    · rw [ul_n (by decide), ul_s]
      show _ = lI ((A 31 (w * 3 + 1)).toInt * pt A c * (sv_3 (ix (A 31 (w * 3)))).toInt)
      rw [ey, ix_n (by omega), l_32 (show (sv_3 y).toInt = (sv_3 y).toInt from rfl), ← l_mul]
    · rw [ul_s]
      show _ = lI ((A 31 (w * 3 + 1)).toInt * pt A c * (sv_4 (ix (A 31 (w * 3)))).toInt)
      rw [ey, ix_n (by omega), l_32 (show (sv_4 y).toInt = (sv_4 y).toInt from rfl), ← l_mul]
  obtain ⟨J2, q1, q2, q3⟩ := hsp
  exact ⟨J2, q1, eS_b hs ek hk hw hh hl, fun j _ => rfl, hy.1, fun t _ => rfl, hy.2.1, hy.2.2.1, q2, q3, hy.2.2.2⟩
theorem rs_of (hs : SR X GG I A T K) (ek : I 32 = nI k) (hk : k ≤ 16) (hw : w < k) (hh : ∀ j, j < 48 → 0 ≤ h j ∧ h j ≤ 100000) (hl : 0 ≤ lg ∧ lg ≤ 10) (hK : ∀ i, ¬ (48 ≤ i ∧ i < 144) → ¬ i = 159 → A1 1 i = K i) (hhold : ∀ j, j < 48 → ∃ v : Int32, v.toInt = h j ∧ ∀ I J B, sX8_holdsOf (nI j) I J A1 B = some v) (hleg : (A1 1 159).toInt = lg) : RS (eS h lg A w c) w c A1 := by
  obtain ⟨⟨y, hy8, ey, ky⟩, ⟨kf, hf⟩, -⟩ := wnd hs ek hk hw
  have h4 : bt (A 15 4) 0 50 := (hs.2.2.2.2.2.1.1 4 (by decide)).2
  have e4 := (hs.2.2.2.2.2.1.1 4 (by decide)).1
  have e2 := (hs.2.2.2.2.2.1.1 2 (by decide)).1
  have fe : ∀ t, t < 6 → aS (fun s => (A 13 s).toInt) t = aS (fun s => (A1 1 (144 + s)).toInt) t ∧ lS (fun s => (A 13 s).toInt) t = lS (fun s => (A1 1 (144 + s)).toInt) t := by
    have q : ∀ s, s < 6 → (A 13 s).toInt = (A1 1 (144 + s)).toInt := fun s hs6 => by rw [hK _ (by omega) (by omega), (hs.2.2.2.1 s hs6).1]
    have q0 := q 0 (by decide)
    have q1 := q 1 (by decide)
    have q2 := q 2 (by decide)
    have q3 := q 3 (by decide)
    have q4 := q 4 (by decide)
    have q5 := q 5 (by decide)
    intro t ht
    match t, ht with
    | 0, _ => simp only [aS, lS, aD, lD, Nat.reduceSub]; omega
    | 1, _ => simp only [aS, lS, aD, lD, Nat.reduceSub]; omega
    | 2, _ => simp only [aS, lS, aD, lD, Nat.reduceSub]; omega
    | 3, _ => simp only [aS, lS, aD, lD, Nat.reduceSub]; omega
    | 4, _ => simp only [aS, lS, aD, lD, Nat.reduceSub]; omega
    | 5, _ => simp only [aS, lS, aD, lD, Nat.reduceSub]; omega
    | t + 6, ht => omega
  refine ⟨eS_b hs ek hk hw hh hl, fun j hj => ?_, hhold, fun t ht => ?_, (A 31 (w * 3 + 1)).toInt, pt A c, (A 15 2).toInt, 10 - lg, y, by omega, hy8, ?_, ?_, ?_, ?_, ?_, fun t ht => (fe t ht).1, fun t ht => (fe t ht).2, ?_, ?_, rfl⟩
  · rw [hK _ (by omega) (by omega)]
    show (K j).toInt = (A 10 j).toInt
    rw [(hs.1 j hj).1]
  · rw [hK _ (by omega) (by omega)]
    show (K (150 + t)).toInt = (A 14 t).toInt
    rw [(hs.2.2.2.2.1 t ht).1]
  · rw [hK _ (by omega) (by omega)]; exact ky
  · rw [hK _ (by omega) (by omega), kf]
  · rw [hK 160 (by omega) (by omega), show K 160 = A 15 4 from e4.symm]
    unfold pt
    by_cases q : c = 1
    · rw [if_pos q, if_pos q]; exact i_sub (show (100 : Int32).toInt = 100 from rfl) rfl (by omega)
    · rw [if_neg q, if_neg q]; rfl
  · rw [hK 158 (by omega) (by omega), show K 158 = A 15 2 from e2.symm]
  · exact i_sub (show (10 : Int32).toInt = 10 from rfl) hleg (by omega)
  · show (A 31 (w * 3 + 1)).toInt * pt A c * (sv_3 (ix (A 31 (w * 3)))).toInt = _
    rw [ey, ix_n (by omega)]
  · show (A 31 (w * 3 + 1)).toInt * pt A c * (sv_4 (ix (A 31 (w * 3)))).toInt = _
    rw [ey, ix_n (by omega)]
end T2
