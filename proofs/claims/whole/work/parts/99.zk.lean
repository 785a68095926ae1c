section ZK
variable {I I1 I0 K0 : Nat → Int32} {J J1 : Nat → Int64} {A A1 : Nat → Nat → Int32} {B B1 : Nat → Nat → Int64} {T : Nat → Option Txt} {M : Nat → Option Img} {e : Nat → Nat → Int} {j : Nat}
theorem nd_l {t : Txt} {x k : Nat} {x3 : Int32} (hx : x < 8) (hk : k ≤ 16) (hj : j < 48) (hX : XX t (K0 (1639 + x)) (fun j => K0 (1647 + 400 * x + j)) (fun j => K0 (4847 + 400 * x + j))) : ∀ (m f f8 w : Nat) (v : Int64) (I : Nat → Int32) (J : Nat → Int64) (A : Nat → Nat → Int32) (B : Nat → Nat → Int64) (I1 : Nat → Int32) (J1 : Nat → Int64) (A1 : Nat → Nat → Int32) (B1 : Nat → Nat → Int64), w + m = k → m < f → m < f8 → I 32 = nI k → v.toInt32.toInt64 = v → (∀ q, q < 45 → I q = I0 q) → A1 1 = K0 → RY (fun j => (hdf A j).toInt) (A 15 3).toInt I A → RE XX GG I J A B T M I1 J1 A1 B1 → RB (lX7_needBy_13 t.1 t.2.1 t.2.2.1 t.2.2.2 f (nI j) x3 v (nI w) I J A B) (lX8_needOf_6 f8 (nI x) (nI j) x3 v (nI w) I1 J1 A1 B1) (NQ T M I0 K0) := by
  intro m
  induction m with
  | zero =>
    intro f f8 w v I J A B I1 J1 A1 B1 hm hf hf8 ek hv hI0 hK0 hy hr
    obtain ⟨f, rfl⟩ : ∃ g, f = g + 1 := ⟨f - 1, by omega⟩
    obtain ⟨f8, rfl⟩ : ∃ g, f8 = g + 1 := ⟨f8 - 1, by omega⟩
    obtain ⟨k2, hk2, ek2, e1⟩ := wk_2 hr.1
    have e2 : A1 1 1633 = nI k := e1.trans (ek2.symm.trans ek)
    have : w = k := hm
    subst this
    rw [lX7_needBy_13, lX8_needOf_6]
    exact rl_t (by rw [ek]; exact Int32.le_refl _) (rr_t (by rw [show A1 1 (ix 1633) = nI w from e2]; exact Int32.le_refl _) (rb_some ⟨rfl, hv, hr, hI0, hK0⟩))
  | succ m ih =>
    intro f f8 w v I J A B I1 J1 A1 B1 hm hf hf8 ek hv hI0 hK0 hy hr
    obtain ⟨f, rfl⟩ : ∃ g, f = g + 1 := ⟨f - 1, by omega⟩
    obtain ⟨f8, rfl⟩ : ∃ g, f8 = g + 1 := ⟨f8 - 1, by omega⟩
    obtain ⟨k2, hk2, ek2, e1⟩ := wk_2 hr.1
    have e2 : A1 1 1633 = nI k := e1.trans (ek2.symm.trans ek)
    have hw : w < k := by omega
    have hl3 : bt (A 15 3) 0 10 := (hr.1.2.2.2.2.2.1.1 3 (by decide)).2
    have hh : ∀ j, j < 48 → 0 ≤ (fun j => (hdf A j).toInt) j ∧ (fun j => (hdf A j).toInt) j ≤ 100000 := fun j hj => by
      have := hd_v hr.1 hj
      show 0 ≤ (hdf A j).toInt ∧ (hdf A j).toInt ≤ 100000
      omega
    have ew : I 30 = nI 3 := (hr.1.2.2.2.2.2.2.2.1 0 (by decide)).1
    obtain ⟨J2, b1, b2⟩ := bw_s (J := J) (B := B) hr.1 ek hk hw (Or.inr rfl : (1 : Int32) = 0 ∨ (1 : Int32) = 1) hh hl3 hy
    have hrs := rb_w (c := 1) hr.1 ek hk hw
    generalize eS (fun j => (hdf A j).toInt) (A 15 3).toInt A w 1 = e at b2 hrs
    obtain ⟨A2, B2, l1, l2, l3⟩ := ld_7 (B := B) b2 hj
    obtain ⟨A3, f1, f2, f3⟩ := fj_7 (I := I) (J := J2) (A := A2) (B := B2) (x3 := x3) hj
    obtain ⟨A4, g1, g2, g3⟩ := fw_7 (I := I) (J := J2) (A := A3) (B := B2) (x1 := (ldF e j).toInt32) (x2 := z13 (A 31 (w * 3)))
    obtain ⟨⟨Jr, Ar, Br⟩, r1, r2, r3, r4, r5, r6, r7⟩ := aj_8 (I1 := I1) (J1 := J1) (B1 := B1) (x2 := x3) hrs hr.1 hj (show w < 16 by omega)
    dsimp only at r2 r3 r4 r5 r6 r7
    have lk : LK A4 Ar Br := lk_j hr.1 hj ek hk hw b2.1 l2 f3 g3 r3 r4 r5 r6 r7
    have ar1 : Ar 1 = K0 := (r2 1 (by decide) (by decide)).trans hK0
    obtain ⟨d, d1, d2, d3⟩ := tx_a (Ar := Ar) (Br := Br) hx (by rw [ar1]; exact hX) lk
    obtain ⟨I3, J3, F2, u1, u2, q1, q2, q3, q4, q5⟩ := d3 I1 Jr
    have ewd : A 31 (w * 3) = A1 1 (165 + 3 * w) := by
      obtain ⟨ew, es, k', hk', ek', hc⟩ := hr.1.2.2.2.2.2.2.2.1 0 (by decide)
      have kk : k' = k := by
        have h : nI k' = nI k := ek'.symm.trans ek
        rw [nI_eq (by have : tN 0 = 16 := rfl; omega) (by omega)] at h
        exact h
      rw [Nat.mul_comm 3 w]
      exact (hc (w * 3) (by rw [kk]; have : tW 0 = 3 := rfl; rw [this]; omega) (fun q => absurd q (by decide))).1
    have a4 : ∀ a, ¬ a = 64 → ¬ a = 96 → A4 a = A a := fun a h1 h2 => by rw [g2 a h2, f2 a h2, l2 a h1]
    have hh4 : hdf A4 = hdf A := by
      funext i
      unfold hdf
      rw [a4 11 (by decide) (by decide), a4 12 (by decide) (by decide), a4 15 (by decide) (by decide)]
    have hX4 : ∀ I' : Nat → Int32, (∀ q, ¬ q = 98 → I' q = I q) → RY (fun j => (hdf A4 j).toInt) (A4 15 3).toInt I' A4 := by
      intro I' hI'
      rw [hh4]
      unfold RY
      rw [a4 51 (by decide) (by decide), a4 55 (by decide) (by decide), a4 56 (by decide) (by decide), a4 13 (by decide) (by decide), a4 15 (by decide) (by decide), hI' 57 (by decide)]
      exact hy
    have key : ∀ (I' : Nat → Int32) (J' : Nat → Int64) (B' : Nat → Nat → Int64) (v' : Int64), (∀ q, ¬ q = 98 → I' q = I q) → v'.toInt32.toInt64 = v' → RB (lX7_needBy_13 t.1 t.2.1 t.2.2.1 t.2.2.2 f (nI j) x3 v' (nI w + 1) I' J' A4 B') (lX8_needOf_6 f8 (nI x) (nI j) x3 v' (nI w + 1) I3 J3 Ar Br) (NQ T M I0 K0) := by
      intro I' J' B' v' hI' hv'
      rw [nI_1]
      refine ih f f8 (w + 1) v' I' J' A4 B' I3 J3 Ar Br (by omega) (by omega) (by omega) ((hI' 32 (by decide)).trans ek) hv' (fun q hq => (hI' q (by omega)).trans (hI0 q hq)) ar1 (hX4 I' hI') ?_
      exact RE_fr xe_x (fun q hq => hI' q (by omega)) (fun a ha => a4 a (by omega) (by omega)) (fun q hq => u1 q (by omega)) (fun a ha => r2 a (by omega) (by omega)) hr
    have hwd : sX8_windOf (nI w) 0 I3 J3 Ar Br = some (Ar 1 (165 + 3 * w)) := wd_8 (f := 0) (by omega) (by decide)
    have hon : Ar 1 (165 + 3 * w) = A 31 (w * 3) := by rw [r2 1 (by decide) (by decide)]; exact ewd.symm
    have e8 : nI j / (8 : Int32) = nI (j / 8) := pk_div (by omega) (by decide) (by decide)
    /- the need itself -/
    have nee : ∀ (I' : Nat → Int32) (J' : Nat → Int64) (B' : Nat → Nat → Int64) (o : Int64), (∀ q, ¬ q = 98 → I' q = I q) → d 1 = some o → RB (lX7_needBy_13 t.1 t.2.1 t.2.2.1 t.2.2.2 f (nI j) x3 (if o < v then v else o) (nI w + 1) I' J' A4 B') (if lg_cmp (J3 34) v ≤ 0 then lX8_needOf_6 f8 (nI x) (nI j) x3 v (nI w + 1) I3 J3 Ar Br else lX8_needOf_6 f8 (nI x) (nI j) x3 (J3 34) (nI w + 1) I3 J3 Ar Br) (NQ T M I0 K0) := by
      intro I' J' B' o hI' ho
      rw [q4 o ho, mx_1]
      by_cases c : lg_cmp o v ≤ 0
      · rw [if_pos c, if_pos c]
        exact key I' J' B' v hI' hv
      · rw [if_neg c, if_neg c]
        exact key I' J' B' o hI' (d1 1 o ho)
    rw [lX7_needBy_13, lX8_needOf_6]
    refine rl_f (by rw [ek, nn_le (by omega) (by omega)]; omega) (rr_f (by rw [show A1 1 (ix 1633) = nI k from e2, nn_le (by omega) (by omega)]; omega) ?_)
    refine rl_bind b1 (rl_bind (zof_7 ew ek hk hw) ?_)
    rw [e8]
    refine rl_bind l1 ?_
    refine rr_bind r1 (rr_bind F2 (rr_bind hwd ?_))
    refine rl_gv (rr_gv ?_)
    refine rl_f (by decide) (rl_bind l3 ?_)
    refine rl_bind f1 (rl_bind g1 ?_)
    refine rl_gv (rl_gv ?_)
    rw [hon]
    by_cases c : A 31 (w * 3) - A 31 (w * 3) / 2 * 2 = 0
    · have hz : z13 (A 31 (w * 3)) = 1 := by unfold z13; rw [if_pos c]
      refine rl_f (by rw [hz]; decide) (rr_t c ?_)
      refine rl_f (by decide) ?_
      obtain ⟨r, I5, J5, B5, G1, m1, m2, m3, m4⟩ := d2 1 I J2 B2 (by decide) (by decide)
      refine rl_bind (show sX0_tells t.1 t.2.1 t.2.2.1 t.2.2.2 256 I J2 A4 B2 = some (r, I5, J5, B5) from G1) ?_
      rcases m4 with ⟨rfl, e5⟩ | ⟨rfl, e5, rfl⟩
      · refine rl_f (by decide) (rr_f (by rw [q1, zfl_1 e5]; decide) ?_)
        exact nee I5 J5 B5 (J5 95) (fun q hq => (m1 q hq).trans rfl) e5
      · refine rl_t rfl (rr_t (by rw [q1, zfl_0 e5]) ?_)
        exact key I5 _ B5 v (fun q hq => (m1 q hq).trans rfl) hv
    · have hz : z13 (A 31 (w * 3)) = 0 := by unfold z13; rw [if_neg c]
      refine rl_t hz (rr_f c ?_)
      obtain ⟨r, I6, J6, B6, G6, n1, n2, n3, n4⟩ := d2 3 I J2 B2 (by decide) (by decide)
      refine rl_bind (show sX0_tells t.1 t.2.1 t.2.2.1 t.2.2.2 258 I J2 A4 B2 = some (r, I6, J6, B6) from G6) ?_
      rcases n4 with ⟨rfl, e6⟩ | ⟨rfl, e6, rfl⟩
      · refine rl_f (by decide) (rr_f (by rw [q3, zfl_1 e6]; decide) ?_)
        refine rl_f (by decide) ?_
        obtain ⟨r, I5, J5, B5, G1, m1, m2, m3, m4⟩ := d2 1 I6 J6 B6 (by decide) (by decide)
        refine rl_bind (show sX0_tells t.1 t.2.1 t.2.2.1 t.2.2.2 256 I6 J6 A4 B6 = some (r, I5, J5, B5) from G1) ?_
        rcases m4 with ⟨rfl, e5⟩ | ⟨rfl, e5, rfl⟩
        · refine rl_f (by decide) (rr_f (by rw [q1, zfl_1 e5]; decide) ?_)
          exact nee I5 J5 B5 (J5 95) (fun q hq => (m1 q hq).trans (n1 q hq)) e5
        · refine rl_t rfl (rr_t (by rw [q1, zfl_0 e5]) ?_)
          exact key I5 _ B5 v (fun q hq => (m1 q hq).trans (n1 q hq)) hv
      · refine rl_t rfl (rr_t (by rw [q3, zfl_0 e6]) ?_)
        refine rl_t rfl ?_
        exact key I6 _ B6 v n1 hv
theorem is_z : (0 : Int64).toInt32.toInt64 = 0 := by decide
/-- need, both -/
theorem nd_x {t : Txt} {x : Nat} {x3 : Int32} (hx : x < 8) (hj : j < 48) (hX : XX t (A1 1 (1639 + x)) (fun j => A1 1 (1647 + 400 * x + j)) (fun j => A1 1 (4847 + 400 * x + j))) (hr : RE XX GG I J A B T M I1 J1 A1 B1) : ∃ r I2 J2 A2 B2 I3 J3 A3 B3, sX7_needBy t.1 t.2.1 t.2.2.1 t.2.2.2 (nI j) x3 I J A B = some (r.toInt32, I2, J2, A2, B2) ∧ sX8_needOf (nI x) (nI j) x3 I1 J1 A1 B1 = some (r, I3, J3, A3, B3) ∧ r.toInt32.toInt64 = r ∧ RE XX GG I2 J2 A2 B2 T M I3 J3 A3 B3 ∧ (∀ q, q < 45 → I2 q = I q) ∧ A3 1 = A1 1 := by
  have hF : FU = 1000000 := rfl
  obtain ⟨Ia, Aa, q1, q2, q3, q4⟩ := rd_7 (J := J) (B := B) hr.1
  have hha : hdf Aa = hdf A := by
    funext i
    unfold hdf
    rw [q3 11 (by decide) (by decide) (by decide), q3 12 (by decide) (by decide) (by decide), q3 15 (by decide) (by decide) (by decide)]
  obtain ⟨k, hk, ek, e1⟩ := wk_2 hr.1
  have hra : RE XX GG Ia J Aa B T M I1 J1 A1 B1 := RE_fr xe_x (fun q hq => q2 q (by omega)) (fun a ha => q3 a (by omega) (by omega) (by omega)) (fun _ _ => rfl) (fun _ _ => rfl) hr
  obtain ⟨⟨r, I2, J2, A2, B2⟩, ⟨r', I3, J3, A3, B3⟩, E1, E2, n1, n2, n3, n4, n5⟩ := nd_l (x3 := x3) (T := T) (M := M) (I0 := I) (K0 := A1 1) hx hk hj hX k FU FU 0 0 Ia J Aa B I1 J1 A1 B1 (by omega) (by omega) (by omega) ((q2 32 (by decide)).trans ek) is_z (fun q hq => q2 q (by omega)) rfl (by rw [hha, q3 15 (by decide) (by decide) (by decide)]; exact q4) hra
  dsimp only at n1 n2 n3 n4 n5
  subst n1
  refine ⟨r, I2, J2, A2, B2, I3, J3, A3, B3, ?_, ?_, n2, n3, n4, n5⟩
  · unfold sX7_needBy
    rw [q1]
    dsimp only [Option.bind_some]
    rw [show (0 : Int32) = nI 0 from rfl, E1]
    rfl
  · unfold sX8_needOf
    rw [show (0 : Int32) = nI 0 from rfl, E2]
    rfl
theorem ps_need : PS_need (RE XX GG) := by
  intro x1 x2 x3 I J A B T M I1 J1 A1 B1 hr
  obtain ⟨p1, p2⟩ := tx_p hr.1 x1
  refine ⟨fun h => ?_, fun t h => ?_⟩
  · refine ⟨-1, I, J, A, B, I1, J1, A1, B1, rfl, ?_, hr⟩
    unfold sX8_need
    rw [it_8]
    dsimp only [Option.bind_some]
    rw [if_pos (p1 h)]
  · obtain ⟨x, hx, rfl, g, hX⟩ := p2 t h
    have hb : RB (sX7_needS t.1 t.2.1 t.2.2.1 t.2.2.2 (nI x) x2 x3 I J A B) (sX8_need (nI x) x2 x3 I1 J1 A1 B1) (fun a b => a.1 = b.1 ∧ RE XX GG a.2.1 a.2.2.1 a.2.2.2.1 a.2.2.2.2 T M b.2.1 b.2.2.1 b.2.2.2.1 b.2.2.2.2) := by
      unfold sX7_needS sX8_need
      refine rr_bind (it_8 _) (rr_f g ?_)
      refine rl_bind (jt_7 x2) (rr_bind (jt_8 x2) ?_)
      refine rb_if Iff.rfl (fun _ _ => rb_some ⟨rfl, hr⟩) (fun h2 _ => ?_)
      obtain ⟨u1, u2⟩ := rg_1 h2
      obtain ⟨j, hj, rfl⟩ := nI_of2 (n := 47) (by decide) u1 u2
      refine rl_bind (dy_7 x3) (rr_bind (dy_8 x3) ?_)
      refine rb_if Iff.rfl (fun _ _ => rb_some ⟨rfl, hr⟩) (fun h3 _ => ?_)
      obtain ⟨r, I2, J2, A2, B2, I3, J3, A3, B3, E1, E2, -, n3, -⟩ := nd_x (x3 := x3) hx (show j < 48 by omega) hX hr
      exact rl_bind E1 (rr_bind E2 (rb_some ⟨rfl, n3⟩))
    obtain ⟨⟨r, I2, J2, A2, B2⟩, ⟨r', I3, J3, A3, B3⟩, h1, h2, h3, h4⟩ := hb
    cases h3
    exact ⟨r, I2, J2, A2, B2, I3, J3, A3, B3, h1, h2, h4⟩
end ZK
