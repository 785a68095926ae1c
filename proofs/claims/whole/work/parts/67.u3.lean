theorem l_i32 {x : Int32} {v : Int} (h : x.toInt = v) : (lI v).toInt32 = x := by
  refine Int32.toInt_inj.mp ?_
  have hb := x.toInt_lt
  have ha := x.le_toInt
  have h1 : x.toInt < 2147483648 := hb
  have h2 : -2147483648 ≤ x.toInt := ha
  have e := Int64.toInt_toInt32 (lI v)
  rw [l_ti (by omega), Int.bmod_eq_of_le (by omega) (by omega)] at e
  rw [e, h]
section U3
variable {X : Txt → Int32 → (Nat → Int32) → (Nat → Int32) → Prop} {I I' I1 I1' : Nat → Int32} {J J' J1 J1' : Nat → Int64} {A A' A1 A1' : Nat → Nat → Int32} {B B' B1 B1' : Nat → Nat → Int64} {T : Nat → Option Txt} {M : Nat → Option Img} {K : Nat → Int32} {h : Nat → Int} {lg : Int} {k t : Nat} {m c : Int32}
/-- a wind's odds -/
def oW (A : Nat → Nat → Int32) (w : Nat) : Int := (A 31 (w * 3 + 2)).toInt
theorem oW_b (hs : SR X GG I A T K) (ek : I 32 = nI k) (hk : k ≤ 16) : ∀ w, w < k → 1 ≤ oW A w ∧ oW A w ≤ 1000000 := fun w hw => (wnd hs ek hk hw).2.2.2
theorem yo_7 (hs : SR X GG I A T K) (ek : I 32 = nI k) (hk : k ≤ 16) {bits x : Int32} {f : Int} (hx : x.toInt = f) (hf : 0 ≤ f ∧ f ≤ 100) {a b : Nat → Bool} (ha : ∀ w, w < k → bb bits (2 * w + 1) = a w) (hb : ∀ w, w < k → (if A 15 4 = 0 then a w else bb bits (2 * w)) = b w) : SP (sX4_yearOf bits x I J A B) (fun v => v.toInt = yS a b (oW A) f k) := by
  have ho := oW_b hs ek hk
  have hl : ∀ (n w : Nat) (v : Int32), k < w + n → w ≤ k → v.toInt = yS a b (oW A) f w → SP (lX4_yearOf_5 n bits x v (nI w) I J A B) (fun v => v.toInt = yS a b (oW A) f k) := by
    intro n
    induction n with
    | zero => intro w v h1 h2; omega
    | succ n ih =>
      intro w v h1 h2 hv
      rw [lX4_yearOf_5, ek]
      by_cases hw : w = k
      · subst hw
        exact sp_t ((nn_le (by omega) (by omega)).mpr (Nat.le_refl _)) (sp_some hv)
      · have hw : w < k := by omega
        refine sp_f (by rw [nn_le (by omega) (by omega)]; omega) ?_
        rw [show (2 : Int32) * nI w = nI (2 * w) by rw [show (2 : Int32) = nI 2 from rfl, pk_mul], nI_1, nI_1]
        refine sp_gvE ((u1_v bits (show 2 * w + 1 < 32 by omega)).trans (by rw [ha w hw])) ?_
        have e2 : (if A 15 (ix 4) = 0 then (if a w = true then (1 : Int32) else 0) else (ushr bits (nI (2 * w)) &&& 1)) = if b w = true then 1 else 0 := by
          rw [← hb w hw]
          show (if A 15 4 = 0 then (if a w = true then (1 : Int32) else 0) else (ushr bits (nI (2 * w)) &&& 1)) = _
          by_cases z : A 15 4 = 0
          · rw [if_pos z, if_pos z]
          · rw [if_neg z, if_neg z]; exact u1_v bits (by omega)
        refine sp_gvE e2 ?_
        refine sp_bind (show sX5_cell 0 (nI w) 2 I J A B = some (A 31 (w * 3 + 2)) from cell_7 (n := 0) (k := k) (i := w) (c := 2) (by decide) (hs.2.2.2.2.2.2.2.1 0 (by decide)).1 ek hk hw (by decide)) ?_
        refine sp_gvG (fun v2 hv2 => sp_gv ?_)
        refine ih (w + 1) v2 (by omega) (by omega) ?_
        have b0 := yS_b (a := a) (b := b) (o := oW A) hf (w + 1) (fun q hq => ho q (by omega))
        have b1 := yS_b (a := a) (b := b) (o := oW A) hf w (fun q hq => ho q (by omega))
        have how := ho w hw
        have iv : ∀ c : Bool, (if c = true then (1 : Int32) else 0).toInt = if c = true then 1 else 0 := fun c => by cases c <;> rfl
        have m1 : (100 - x).toInt = 100 - f := i_sub (show (100 : Int32).toInt = 100 from rfl) hx (by omega)
        have p1 : ((if a w = true then (1 : Int32) else 0) * (100 - x)).toInt = (if a w = true then 1 else 0) * (100 - f) := i_mul (iv _) m1 (by cases a w <;> simp <;> omega)
        have p2 : ((if b w = true then (1 : Int32) else 0) * x).toInt = (if b w = true then 1 else 0) * f := i_mul (iv _) hx (by cases b w <;> simp <;> omega)
        have p3 := i_add p1 p2 (by cases a w <;> cases b w <;> simp <;> omega)
        have p4 : ((if a w = true then (1 : Int) else 0) * (100 - f) + (if b w = true then 1 else 0) * f).natAbs ≤ 100 := by cases a w <;> cases b w <;> simp <;> omega
        have p5 : (oW A w * ((if a w = true then (1 : Int) else 0) * (100 - f) + (if b w = true then 1 else 0) * f)).natAbs ≤ 1000000 * 100 := ab_mul (by omega) p4
        have p6 := i_mul (show (A 31 (w * 3 + 2)).toInt = oW A w from rfl) p3 (by omega)
        rw [hv2, i_add hv p6 (by rw [yS] at b0; omega)]
        rfl
  obtain ⟨v, h1, h2⟩ := hl FU 0 0 (by unfold FU; omega) (by omega) rfl
  unfold sX4_yearOf
  exact sp_bind h1 (sp_some h2)
theorem oo_8 (hk : k ≤ 16) (e1 : A1 1 1633 = nI k) {o : Nat → Int} (ho : ∀ w, w < k → (A1 1 (165 + 3 * w + 2)).toInt = o w) {bits : Int32} {a : Nat → Bool} (ha : ∀ w, w < k → bb bits w = a w) : sX8_oddsOf bits I1 J1 A1 B1 = some (lI (sO a o k)) := by
  have hl : ∀ (n w : Nat), k < w + n → w ≤ k → lX8_oddsOf_5 n bits (lI (sO a o w)) (nI w) I1 J1 A1 B1 = some (lI (sO a o k)) := by
    intro n
    induction n with
    | zero => intro w h1 h2; omega
    | succ n ih =>
      intro w h1 h2
      rw [lX8_oddsOf_5, show A1 1 (ix 1633) = nI k from e1]
      by_cases hw : w = k
      · subst hw
        rw [if_pos ((nn_le (by omega) (by omega)).mpr (Nat.le_refl _))]
      · have hw : w < k := by omega
        rw [if_neg (by rw [nn_le (by omega) (by omega)]; omega), r1_v bits (show w < 32 by omega), ha w hw, show sX8_windOf (nI w) 2 I1 J1 A1 B1 = some (A1 1 (165 + 3 * w + 2)) from wd_8 (f := 2) (by omega) (by decide)]
        dsimp only [gv, Option.bind_some]
        rw [l_32 (ho w hw), nI_1]
        have hs : sO a o (w + 1) = sO a o w + (if a w = true then o w else 0) := rfl
        have := ih (w + 1) (by omega) (by omega)
        rw [hs, l_add] at this
        cases hb : a w with
        | true => rw [hb, if_pos rfl] at this; rw [if_pos rfl]; exact this
        | false => rw [hb, if_neg (by decide), ← l_z] at this; rw [if_neg (show ¬ ((if false = true then (1 : Int32) else 0) = 1) by decide)]; exact this
  have := hl FU 0 (by unfold FU; omega) (by omega)
  have : lX8_oddsOf_5 FU bits 0 0 I1 J1 A1 B1 = some (lI (sO a o k)) := by rw [l_z]; exact this
  unfold sX8_oddsOf
  rw [this]
  rfl
theorem yb_8 (hk : k ≤ 16) (e1 : A1 1 1633 = nI k) {o : Nat → Int} (ho : ∀ w, w < k → (A1 1 (165 + 3 * w + 2)).toInt = o w) {p q x : Int32} {a b : Nat → Bool} (ha : ∀ w, w < k → bb p w = a w) (hb : ∀ w, w < k → bb q w = b w) {f : Int} (hx : x.toInt = f) (hf : 0 ≤ f ∧ f ≤ 100) : sX8_yearBy p q x I1 J1 A1 B1 = some (lI (yS a b o f k)) := by
  unfold sX8_yearBy
  rw [oo_8 hk e1 ho ha, Option.bind_some, oo_8 hk e1 ho hb, Option.bind_some, l_32 (show (100 - x).toInt = 100 - f from i_sub (show (100 : Int32).toInt = 100 from rfl) hx (by omega)), l_32 hx, ← l_mul, ← l_mul, ← l_add, yS_e]
theorem FW_s (h : Nat → Int) (lg : Int) {w : Nat} (hz : A 15 4 = 0) : FW h lg A w 0 = FW h lg A w 1 := by
  have e : eS h lg A w 0 = eS h lg A w 1 := by
    unfold eS
    rw [show pt A 0 = pt A 1 by unfold pt; rw [hz]; rfl]
  unfold FW
  rw [e]
theorem f100 {x : Int32} {f : Int} (hx : x.toInt = f) (hf : 0 ≤ f ∧ f ≤ 100) : (x * x / 100).toInt = f * f / 100 ∧ 0 ≤ f * f / 100 ∧ f * f / 100 ≤ 100 := by
  have h0 : 0 ≤ f * f := Int.mul_nonneg hf.1 hf.1
  have h1 : (f * f).natAbs ≤ 100 * 100 := ab_mul (by omega) (by omega)
  rw [Int32.toInt_div_of_ne_right _ _ (by decide), i_mul hx hx (by omega), show (100 : Int32).toInt = 100 from rfl, Int.tdiv_eq_ediv_of_nonneg h0]
  omega
/-- the year's bits on both sides -/
theorem ps_odds (hX : XE X) : PS_odds (RE X GG) := by
  intro x1 I J A B T M I1 J1 A1 B1 hr
  refine fin_5 ?_
  obtain ⟨k, hk, ek, e1⟩ := wk_2 hr.1
  unfold sX7_odds sX8_odds
  refine rl_bind (rg_wi _ _ _) (rr_bind (rg_in _ _ _) ?_)
  refine rb_if Iff.rfl (fun _ _ => rb_some ⟨rfl, hr⟩) (fun g _ => ?_)
  have hl3 : 0 ≤ (A 15 3).toInt ∧ (A 15 3).toInt ≤ 10 := (hr.1.2.2.2.2.2.1.1 3 (by decide)).2
  obtain ⟨Ia, Aa, q1, q2, q3, q4⟩ := rd_7 (J := J) (B := B) hr.1
  have hsa : SR X GG Ia Aa T (A1 1) := SR_ext hX (fun k k1 k2 => q2 k (by omega)) (fun a k1 k2 j => by rw [q3 a (by omega) (by omega) (by omega)]) (fun _ _ => rfl) hr.1
  have hh : ∀ j, j < 48 → 0 ≤ (fun j => (hdf A j).toInt) j ∧ (fun j => (hdf A j).toInt) j ≤ 100000 := fun j hj => by
    have := hd_v hr.1 hj
    show 0 ≤ (hdf A j).toInt ∧ (hdf A j).toInt ≤ 100000
    omega
  have eka : Ia 32 = nI k := (q2 32 (by decide)).trans ek
  have hrs : ∀ (c : Int32) w, w < k → RS (eS (fun j => (hdf A j).toInt) (A 15 3).toInt Aa w c) w c A1 := fun c w hw => by
    rw [eS_x (q3 10 (by decide) (by decide) (by decide)) (q3 14 (by decide) (by decide) (by decide)) (q3 13 (by decide) (by decide) (by decide)) (q3 31 (by decide) (by decide) (by decide)) (q3 15 (by decide) (by decide) (by decide))]
    exact rb_w hr.1 ek hk hw
  generalize (fun j => (hdf A j).toInt) = h at hh hrs q4
  generalize (A 15 3).toInt = lg at hl3 hrs q4
  refine rl_bind q1 ?_
  refine rl_bind (show sX4_currents Ia J Aa B = some (if Aa 15 4 = 0 then -1431655766 else -1) from rfl) ?_
  obtain ⟨⟨bits, I2, J2, A2, B2⟩, r1, r2, r3, r4, -⟩ := fa_7 (J := J) (B := B) hX hsa eka hk hh hl3 q4 (if Aa 15 4 = 0 then -1431655766 else -1)
  refine rl_bind r1 (rl_gv ?_)
  obtain ⟨⟨p, I3, J3, A3, B3⟩, s1, s2, s3, s4, -⟩ := fy_8 (I1 := I1) (J1 := J1) (B1 := B1) hk (hrs 1) e1
  refine rr_bind s1 ?_
  have h31 : A3 1 = A1 1 := s4 1 (by decide) (by decide)
  obtain ⟨⟨pp, I4, J4, A4, B4⟩, t1, t2, t3, t4, -⟩ := fy_8 (I1 := I3) (J1 := J3) (B1 := B3) (A1 := A3) hk (fun w hw => RS_x (hrs 0 w hw) h31) (by rw [h31]; exact e1)
  refine rr_bind t1 ?_
  have h41 : A4 1 = A1 1 := (t4 1 (by decide) (by decide)).trans h31
  have hre : RE X GG I2 J2 A2 B2 T M I4 J4 A4 B4 := by
    refine RE_br hX (fun q hq => (r3 q (by omega)).trans (q2 q (by omega))) (fun a ha => (r4 a (by omega) (by omega) (by omega) (by omega)).trans (q3 a (by omega) (by omega) (by omega))) (fun q hq => (t3 q (by omega) (by omega)).trans (s3 q (by omega) (by omega))) (fun a ha => (t4 a (by omega) (by omega)).trans (s4 a (by omega) (by omega))) hr
  have hs2 := hre.1
  have ek2 : I2 32 = nI k := (r3 32 (by decide)).trans eka
  have e4 : A4 1 1633 = nI k := by rw [h41]; exact e1
  have a15 : A2 15 = Aa 15 := r4 15 (by decide) (by decide) (by decide) (by decide)
  have ho : ∀ w, w < k → (A4 1 (165 + 3 * w + 2)).toInt = oW A2 w := fun w hw => by
    unfold oW
    rw [(wnd hs2 ek2 hk hw).2.2.1]
  have r2 : ∀ q, q < 32 → bb bits q = (decide (q < 2 * k) && (bb (if Aa 15 4 = 0 then -1431655766 else -1) q && FW h lg Aa (q / 2) (nI (q % 2)))) := r2
  have ha : ∀ w, w < k → bb bits (2 * w + 1) = FW h lg Aa w 1 := fun w hw => by
    rw [r2 _ (by omega), decide_eq_true (by omega), show (2 * w + 1) / 2 = w by omega, show (2 * w + 1) % 2 = 1 by omega, Bool.true_and]
    have : bb (if Aa 15 4 = 0 then -1431655766 else -1) (2 * w + 1) = true := by
      split
      · rw [m_a _ (by omega)]; exact decide_eq_true (by omega)
      · exact m_1 _ (by omega)
    rw [this]
    rfl
  have hb : ∀ w, w < k → (if A2 15 4 = 0 then FW h lg Aa w 1 else bb bits (2 * w)) = FW h lg Aa w 0 := fun w hw => by
    rw [a15]
    by_cases z : Aa 15 4 = 0
    · rw [if_pos z, FW_s h lg z]
    · rw [if_neg z, r2 _ (by omega), decide_eq_true (by omega), show 2 * w / 2 = w by omega, show 2 * w % 2 = 0 by omega, if_neg z, m_1 _ (by omega)]
      rfl
  have hap : ∀ w, w < k → bb p w = FW h lg Aa w 1 := fun w hw => by rw [show bb p w = _ from s2 w (by omega), decide_eq_true hw]; rfl
  have hbp : ∀ w, w < k → bb pp w = FW h lg Aa w 0 := fun w hw => by rw [show bb pp w = _ from t2 w (by omega), decide_eq_true hw]; rfl
  have h5 : bt (A2 15 5) 0 100 := (hs2.2.2.2.2.2.1.1 5 (by decide)).2
  have e5 : A4 1 161 = A2 15 5 := ((hs2.2.2.2.2.2.1.1 5 (by decide)).1).symm
  have tm : sX8_term 5 I4 J4 A4 B4 = some (A2 15 5) := by rw [← e5]; exact term_8 (k := 5) (by decide)
  have ob := oW_b hs2 ek2 hk
  rw [show A2 15 (ix 5) = A2 15 5 from rfl]
  obtain ⟨y0, y1, y2⟩ := yo_7 (J := J2) (B := B2) (x := A2 15 5) (f := (A2 15 5).toInt) hs2 ek2 hk rfl h5 ha hb
  have z1 := yb_8 (I1 := I4) (J1 := J4) (B1 := B4) (x := A2 15 5) (f := (A2 15 5).toInt) hk e4 ho hap hbp rfl h5
  have b1 := yS_b (a := fun w => FW h lg Aa w 1) (b := fun w => FW h lg Aa w 0) (o := oW A2) h5 k ob
  refine rl_bind y1 (rr_bind tm (rr_bind z1 ?_))
  by_cases c0 : x1 = 0
  · subst c0
    exact rl_f (by decide) (rl_t rfl (rr_t rfl (rb_some ⟨(l_i32 y2).symm, hre⟩)))
  · refine rr_f c0 ?_
    by_cases c1 : x1 = 1
    · subst c1
      obtain ⟨v0, v1, v2⟩ := yo_7 (J := J2) (B := B2) (x := 100) (f := 100) hs2 ek2 hk rfl (by decide) ha hb
      have w1 := yb_8 (I1 := I4) (J1 := J4) (B1 := B4) (x := 100) (f := 100) hk e4 ho hap hbp rfl (by decide)
      have b2 := yS_b (a := fun w => FW h lg Aa w 1) (b := fun w => FW h lg Aa w 0) (o := oW A2) (f := 100) (by decide) k ob
      refine rl_t rfl (rr_t rfl (rl_bind v1 (rr_bind w1 (rb_some ⟨?_, hre⟩))))
      show v0 - y0 = (lI _ - lI _).toInt32
      rw [← l_sub]
      exact (l_i32 (i_sub v2 y2 (by omega))).symm
    · obtain ⟨g1, g2, g3⟩ := f100 (x := A2 15 5) rfl h5
      obtain ⟨v0, v1, v2⟩ := yo_7 (J := J2) (B := B2) (x := A2 15 5 * A2 15 5 / 100) hs2 ek2 hk g1 ⟨g2, g3⟩ ha hb
      have w1 := yb_8 (I1 := I4) (J1 := J4) (B1 := B4) (x := A2 15 5 * A2 15 5 / 100) hk e4 ho hap hbp g1 ⟨g2, g3⟩
      have b2 := yS_b (a := fun w => FW h lg Aa w 1) (b := fun w => FW h lg Aa w 0) (o := oW A2) ⟨g2, g3⟩ k ob
      refine rl_f c1 (rr_f c1 (rl_f c0 (rl_bind v1 (rr_bind tm (rr_bind tm (rr_bind w1 (rb_some ⟨?_, hre⟩)))))))
      show y0 - v0 = (lI _ - lI _).toInt32
      rw [← l_sub]
      exact (l_i32 (i_sub y2 v2 (by omega))).symm
end U3
