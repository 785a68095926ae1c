/-- one flag and its greatest, as the reference holds it -/
def fm (C : Int) (o : Option Int) (x : Int32) (v : Int64) : Prop := (o = none → x = 0) ∧ ∀ m, o = some m → x = 1 ∧ v = lI (2 * m - C)
section T6
variable {X : Txt → Int32 → (Nat → Int32) → (Nat → Int32) → Prop} {I I' I1 I1' : Nat → Int32} {J J' J1 J1' : Nat → Int64} {A A' A1 A1' : Nat → Nat → Int32} {B B' B1 B1' : Nat → Nat → Int64} {T : Nat → Option Txt} {M : Nat → Option Img} {K : Nat → Int32} {h : Nat → Int} {lg : Int} {k j : Nat}
def CW8 (h : Nat → Int) (lg : Int) (A : Nat → Nat → Int32) (j : Nat) : Int := (A 14 (j / 8)).toInt * (2000 * dF (eS h lg A 0 1) (fun _ => false) (j / 8) (j / 2 % 4))
theorem up_9 {e : Nat → Nat → Int} {w : Nat} (hr : RS e w 1 A1) (hg : GN (fun _ => false) A1) (hj : j < 48) : ∃ J2 B2 J3, sX8_lays (nI w) 1 (nI (j / 8)) I1 J1 A1 B1 = some (1, J2, B2) ∧ sX8_pulls (nI j) 1 I1 J2 A1 B2 = some J3 ∧ J3 12 = lI (2 * pF e (fun _ => false) j - e 2 (j / 8) * (2000 * dF e (fun _ => false) (j / 8) (j / 2 % 4))) := by
  have hok : okF e (fun _ => false) (j / 8) = true := ok_0 hr.1 (by omega)
  obtain ⟨J3, B3, t1, t2, t3, t4, t5, t6, t7, t8⟩ := ly_8 (g := fun _ => false) (I := I1) (J := J1) (B := B1) hr (fun i h _ => hg i h) (show j / 8 < 6 by omega)
  rw [hok, if_pos rfl] at t1
  obtain ⟨J4, p1, p2, p3, p4⟩ := pu_8 (g := fun _ => false) (x := 1) (I := I1) hj hr.2.1 hr.2.2.2.1 ⟨t4, t5, t6, t7, t8 ((okF_i _ _ _).mp hok).1⟩
  rw [if_neg (by decide)] at p4
  exact ⟨J3, B3, J4, t1, p1, p4⟩
theorem dF_x {e e' : Nat → Nat → Int} {g : Nat → Bool} {t f : Nat} (h0 : ∀ i, e 0 i = e' 0 i) (hf : f < 4) : dF e g t f = dF e' g t f := by
  unfold dF
  rw [kF_x h0 (fun _ _ => rfl) hf, wF_x h0 (fun _ _ => rfl)]
theorem eS_0 (w : Nat) (c : Int32) (i : Nat) : eS h lg A w c 0 i = (A 10 i).toInt := by unfold eS; rfl
theorem eS_2 (w : Nat) (c : Int32) (i : Nat) : eS h lg A w c 2 i = (A 14 i).toInt := by unfold eS; rfl
theorem up_7 (w : Nat) (hj : j < 48) : 2 * pF (eS h lg A w 1) (fun _ => false) j - eS h lg A w 1 2 (j / 8) * (2000 * dF (eS h lg A w 1) (fun _ => false) (j / 8) (j / 2 % 4)) = 2 * PW h lg A j w - CW8 h lg A j := by
  have hd := dF_x (e := eS h lg A w 1) (e' := eS h lg A 0 1) (g := fun _ => false) (t := j / 8) (f := j / 2 % 4) (fun i => (eS_0 w 1 i).trans (eS_0 0 1 i).symm) (by omega)
  rw [hd, eS_2]
  unfold PW CW8
  exact Eq.refl _
theorem up_8 {w : Nat} (hr : RS (eS h lg A w 1) w 1 A1) (hg : GN (fun _ => false) A1) (hj : j < 48) : ∃ J2 B2 J3, sX8_lays (nI w) 1 (nI (j / 8)) I1 J1 A1 B1 = some (1, J2, B2) ∧ sX8_pulls (nI j) 1 I1 J2 A1 B2 = some J3 ∧ J3 12 = lI (2 * PW h lg A j w - CW8 h lg A j) := by
  obtain ⟨J2, B2, J3, h1, h2, h3⟩ := up_9 (I1 := I1) (J1 := J1) (B1 := B1) hr hg hj
  exact ⟨J2, B2, J3, h1, h2, h3.trans (congrArg lI (up_7 w hj))⟩
theorem CW_b (he : EB (eS h lg A 0 1)) (hj : j < 48) : (CW8 h lg A j).natAbs ≤ 167961600000000000 := by
  have h2 := he.2.2.1 (j / 8) (by omega)
  exact ab_mul (m := 100000) (n := 1679616000000) (show ((eS h lg A 0 1) 2 (j / 8)).natAbs ≤ 100000 by omega) (ab_mul (m := 2000) (n := 839808000) (by decide) (dF_b he (by omega) (by omega)))
theorem wy_8 {w : Nat} (hw : w < 16) {y : Nat} (hy : A1 1 (165 + 3 * w) = nI y) : sX8_windOf (nI w) 0 I1 J1 A1 B1 = some (nI y) := by rw [← hy]; exact wd_8 (f := 0) hw (by decide)
theorem ie_1 (hs : SR X GG I A T K) (ek : I 32 = nI k) (hk : k ≤ 16) (hh : ∀ j, j < 48 → 0 ≤ h j ∧ h j ≤ 100000) (hl : 0 ≤ lg ∧ lg ≤ 10) (hrs : ∀ w, w < k → RS (eS h lg A w 1) w 1 A1) (hg : GN (fun _ => false) A1) (e1 : A1 1 1633 = nI k) (hway : ∀ w, w < k → ∃ y, y < 8 ∧ A1 1 (165 + 3 * w) = nI y ∧ A 31 (w * 3) = nI y) (hj : j < 48) : ∀ (n w : Nat) (x2 : Int32) (x3 : Int64) (J1 : Nat → Int64) (B1 : Nat → Nat → Int64), k < w + n → w ≤ k → fm (CW8 h lg A j) (mx (PW h lg A j) (ev A) w) x2 x3 → SP (lX8_isEnough_11 n (nI j) x2 x3 (nI w) I1 J1 A1 B1) (fun a => fm (CW8 h lg A j) (mx (PW h lg A j) (ev A) k) a.1 a.2.1) := by
  intro n
  induction n with
  | zero => intro w x2 x3 J1 B1 h1 h2; omega
  | succ n ih =>
    intro w x2 x3 J1 B1 h1 h2 f1
    rw [lX8_isEnough_11, show A1 1 (ix 1633) = nI k from e1]
    by_cases hwk : w = k
    · subst hwk
      exact sp_t ((nn_le (by omega) (by omega)).mpr (Nat.le_refl _)) (sp_some f1)
    · have hw : w < k := by omega
      refine sp_f (by rw [nn_le (by omega) (by omega)]; omega) ?_
      obtain ⟨y, hy, y1, y2⟩ := hway w hw
      refine sp_bind (wy_8 (by omega) y1) ?_
      rw [show nI y - nI y / (2 : Int32) * 2 = nI (y % 2) from pk_rem (by omega) (by decide) (by decide), nI_1]
      by_cases hp : y % 2 = 0
      · have hev : ev A w = true := by unfold ev; rw [y2, ix_n (by omega)]; exact decide_eq_true hp
        refine sp_f (by rw [hp]; decide) ?_
        obtain ⟨J2, B2, J3, u1, u2, u3⟩ := up_8 (I1 := I1) (J1 := J1) (B1 := B1) (hrs w hw) hg hj
        rw [show nI j / (8 : Int32) = nI (j / 8) from pk_div (by omega) (by decide) (by decide)]
        refine sp_bind u1 ?_
        refine sp_bind u2 ?_
        rw [u3]
        have hpb := PW_b hs ek hk hh hl hj hw
        have hcb := CW_b (hrs 0 (by omega)).1 hj
        cases ho : mx (PW h lg A j) (ev A) w with
        | none =>
          have mE : mx (PW h lg A j) (ev A) (w + 1) = some (PW h lg A j w) := by rw [mx, if_pos hev, ho]
          refine sp_t (f1.1 ho) (sp_gv (sp_gv ?_))
          exact ih (w + 1) 1 _ _ _ (by omega) (by omega) (by rw [mE]; exact ⟨fun h => (by cases h), fun m h => by cases h; exact ⟨rfl, rfl⟩⟩)
        | some m =>
          obtain ⟨v1, v2⟩ := f1.2 m ho
          have hmb := mx_b hs ek hk hh hl hj (by omega) ho
          have mE : mx (PW h lg A j) (ev A) (w + 1) = some (if PW h lg A j w ≤ m then m else PW h lg A j w) := by rw [mx, if_pos hev, ho]
          refine sp_f (by rw [v1]; decide) ?_
          rw [v2]
          by_cases q : PW h lg A j w ≤ m
          · rw [if_pos q] at mE
            refine sp_t (by rw [l_cle (by omega) (by omega)]; omega) (sp_gv ?_)
            exact ih (w + 1) 1 _ _ _ (by omega) (by omega) (by rw [mE]; exact ⟨fun h => (by cases h), fun m h => by cases h; exact ⟨rfl, rfl⟩⟩)
          · rw [if_neg q] at mE
            refine sp_f (by rw [l_cle (by omega) (by omega)]; omega) (sp_gv (sp_gv ?_))
            exact ih (w + 1) 1 _ _ _ (by omega) (by omega) (by rw [mE]; exact ⟨fun h => (by cases h), fun m h => by cases h; exact ⟨rfl, rfl⟩⟩)
      · have hev : ¬ ev A w = true := by unfold ev; rw [y2, ix_n (by omega)]; simpa using hp
        have mE : mx (PW h lg A j) (ev A) (w + 1) = mx (PW h lg A j) (ev A) w := by rw [mx, if_neg hev]
        refine sp_t (by rw [show y % 2 = 1 by omega]; rfl) (sp_gv ?_)
        exact ih (w + 1) x2 x3 _ _ (by omega) (by omega) (by rw [mE]; exact f1)
theorem ie_2 (hs : SR X GG I A T K) (ek : I 32 = nI k) (hk : k ≤ 16) (hh : ∀ j, j < 48 → 0 ≤ h j ∧ h j ≤ 100000) (hl : 0 ≤ lg ∧ lg ≤ 10) (hrs : ∀ w, w < k → RS (eS h lg A w 1) w 1 A1) (hg : GN (fun _ => false) A1) (e1 : A1 1 1633 = nI k) (hway : ∀ w, w < k → ∃ y, y < 8 ∧ A1 1 (165 + 3 * w) = nI y ∧ A 31 (w * 3) = nI y) (hj : j < 48) {x2 : Int32} {x3 : Int64} (f1 : fm (CW8 h lg A j) (mx (PW h lg A j) (ev A) k) x2 x3) : ∀ (n w : Nat) (J1 : Nat → Int64) (B1 : Nat → Nat → Int64), k < w + n → w ≤ k → SP (lX8_isEnough_87 n (nI j) x2 x3 (nI w) I1 J1 A1 B1) (fun o => (∃ z, o = .inr z ∧ ∀ v, w ≤ v → v < k → ev A v = false → ∃ a, mx (PW h lg A j) (ev A) k = some a ∧ PW h lg A j v ≤ a) ∨ (∃ z, o = .inl z ∧ ∃ v, v < k ∧ ev A v = false ∧ ¬ ∃ a, mx (PW h lg A j) (ev A) k = some a ∧ PW h lg A j v ≤ a)) := by
  intro n
  induction n with
  | zero => intro w J1 B1 h1 h2; omega
  | succ n ih =>
    intro w J1 B1 h1 h2
    rw [lX8_isEnough_87, show A1 1 (ix 1633) = nI k from e1]
    by_cases hwk : w = k
    · subst hwk
      exact sp_t ((nn_le (by omega) (by omega)).mpr (Nat.le_refl _)) (sp_some (Or.inl ⟨_, rfl, fun v v1 v2 => by omega⟩))
    · have hw : w < k := by omega
      refine sp_f (by rw [nn_le (by omega) (by omega)]; omega) ?_
      obtain ⟨y, hy, y1, y2⟩ := hway w hw
      refine sp_bind (wy_8 (by omega) y1) ?_
      rw [show nI y - nI y / (2 : Int32) * 2 = nI (y % 2) from pk_rem (by omega) (by decide) (by decide), nI_1]
      -- the others behind this one
      have next : (ev A w = false → ∃ a, mx (PW h lg A j) (ev A) k = some a ∧ PW h lg A j w ≤ a) → ∀ J2 B2, SP (lX8_isEnough_87 n (nI j) x2 x3 (nI (w + 1)) I1 J2 A1 B2) (fun o => (∃ z, o = .inr z ∧ ∀ v, w ≤ v → v < k → ev A v = false → ∃ a, mx (PW h lg A j) (ev A) k = some a ∧ PW h lg A j v ≤ a) ∨ (∃ z, o = .inl z ∧ ∃ v, v < k ∧ ev A v = false ∧ ¬ ∃ a, mx (PW h lg A j) (ev A) k = some a ∧ PW h lg A j v ≤ a)) := by
        intro hok J2 B2
        obtain ⟨o, z1, z2⟩ := ih (w + 1) J2 B2 (by omega) (by omega)
        refine ⟨o, z1, ?_⟩
        rcases z2 with ⟨z, z3, z4⟩ | z3
        · refine Or.inl ⟨z, z3, fun v v1 v2 hv => ?_⟩
          by_cases e : v = w
          · subst e; exact hok hv
          · exact z4 v (by omega) v2 hv
        · exact Or.inr z3
      by_cases hp : y % 2 = 0
      · have hev : ev A w = true := by unfold ev; rw [y2, ix_n (by omega)]; exact decide_eq_true hp
        refine sp_t (by rw [hp]; rfl) (sp_gv ?_)
        exact next (fun q => by rw [hev] at q; cases q) _ _
      · have hev : ev A w = false := by unfold ev; rw [y2, ix_n (by omega)]; simpa using hp
        refine sp_f (by rw [show (0 : Int32) = nI 0 from rfl, nI_eq (by omega) (by decide)]; exact hp) ?_
        obtain ⟨J2, B2, J3, u1, u2, u3⟩ := up_8 (I1 := I1) (J1 := J1) (B1 := B1) (hrs w hw) hg hj
        rw [show nI j / (8 : Int32) = nI (j / 8) from pk_div (by omega) (by decide) (by decide)]
        refine sp_bind u1 ?_
        refine sp_bind u2 ?_
        rw [u3]
        have hpb := PW_b hs ek hk hh hl hj hw
        have hcb := CW_b (hrs 0 (by omega)).1 hj
        cases ho : mx (PW h lg A j) (ev A) k with
        | none => exact sp_t (f1.1 ho) (sp_some (Or.inr ⟨_, rfl, w, hw, hev, fun ⟨a, ha, _⟩ => by cases ha⟩))
        | some m =>
          obtain ⟨v1, v2⟩ := f1.2 m ho
          have hmb := mx_b hs ek hk hh hl hj (Nat.le_refl _) ho
          refine sp_f (by rw [v1]; decide) ?_
          rw [v2]
          rw [v2, ho] at next
          by_cases q : PW h lg A j w ≤ m
          · refine sp_t (by rw [l_cle (by omega) (by omega)]; omega) (sp_gv ?_)
            exact next (fun _ => ⟨m, rfl, q⟩) _ _
          · refine sp_f (by rw [l_cle (by omega) (by omega)]; omega) (sp_some (Or.inr ⟨_, rfl, w, hw, hev, fun ⟨a, ha, hb⟩ => by cases ha; exact q hb⟩))
theorem en_8 (hs : SR X GG I A T K) (ek : I 32 = nI k) (hk : k ≤ 16) (hh : ∀ j, j < 48 → 0 ≤ h j ∧ h j ≤ 100000) (hl : 0 ≤ lg ∧ lg ≤ 10) (hrs : ∀ w, w < k → RS (eS h lg A w 1) w 1 A1) (e1 : A1 1 1633 = nI k) (hway : ∀ w, w < k → ∃ y, y < 8 ∧ A1 1 (165 + 3 * w) = nI y ∧ A 31 (w * 3) = nI y) (hj : j < 48) : SP (sX8_isEnough (nI j) I1 J1 A1 B1) (fun a => (a.1 = if dec (PW h lg A j) (ev A) k = true then 1 else 0) ∧ ∀ b, ¬ b = 4 → a.2.2.1 b = A1 b) := by
  unfold sX8_isEnough
  obtain ⟨A2, s1, s2, s3⟩ := ng_9 (I := I1) (J := J1) (A := A1) (B := B1)
  refine sp_bind s1 ?_
  have h1 : A2 1 = A1 1 := s2 1 (by decide)
  have hrs2 : ∀ w, w < k → RS (eS h lg A w 1) w 1 A2 := fun w hw => RS_x (hrs w hw) h1
  have hway2 : ∀ w, w < k → ∃ y, y < 8 ∧ A2 1 (165 + 3 * w) = nI y ∧ A 31 (w * 3) = nI y := by rw [h1]; exact hway
  obtain ⟨⟨x2, x3, J2, B2⟩, q1, q2⟩ := ie_1 (I1 := I1) hs ek hk hh hl hrs2 s3 (by rw [h1]; exact e1) hway2 hj FU 0 0 0 J1 B1 (by unfold FU; omega) (by omega) ⟨fun _ => rfl, fun m hm => by cases hm⟩
  refine sp_bind q1 ?_
  obtain ⟨o, r1, r2⟩ := ie_2 (I1 := I1) hs ek hk hh hl hrs2 s3 (by rw [h1]; exact e1) hway2 hj q2 FU 0 J2 B2 (by unfold FU; omega) (by omega)
  refine sp_bind r1 ?_
  rcases r2 with ⟨z, rfl, hz⟩ | ⟨z, rfl, v, v1, v2, v3⟩
  · refine sp_some ⟨?_, s2⟩
    rw [if_pos (dec_t.mpr (fun w hw hv => hz w (by omega) hw hv))]
  · refine sp_some ⟨?_, s2⟩
    rw [if_neg (fun q => v3 (dec_t.mp q v v1 v2))]
theorem wy_2 (hs : SR X GG I A T K) (ek : I 32 = nI k) (hk : k ≤ 16) (h1 : ∀ i, 165 ≤ i → i < 213 → A1 1 i = K i) : ∀ w, w < k → ∃ y, y < 8 ∧ A1 1 (165 + 3 * w) = nI y ∧ A 31 (w * 3) = nI y := by
  intro w hw
  obtain ⟨⟨y, hy, ey, ky⟩, -, -⟩ := wnd hs ek hk hw
  exact ⟨y, hy, by rw [h1 _ (by omega) (by omega)]; exact ky, ey⟩
theorem ps_enough (hX : XE X) : PS_enough (RE X GG) := by
  intro x1 I J A B T M I1 J1 A1 B1 hr
  obtain ⟨k, hk, ek, e1⟩ := wk_2 hr.1
  have hb : RB (sX7_enough x1 I J A B) (sX8_enough x1 I1 J1 A1 B1) (fun a b => a.1 = b.1 ∧ RE X GG a.2.1 a.2.2.1 a.2.2.2.1 a.2.2.2.2 T M I1 b.2.1 b.2.2.1 b.2.2.2) := by
    unfold sX7_enough sX8_enough
    refine rl_bind (jt_7 x1) (rr_bind (jt_8 x1) ?_)
    refine rb_if Iff.rfl (fun _ _ => rb_some ⟨rfl, hr⟩) (fun h3 _ => ?_)
    obtain ⟨u1, u2⟩ := rg_1 h3
    obtain ⟨j, hj, rfl⟩ := nI_of2 (n := 47) (by decide) u1 u2
    have hj : j < 48 := by omega
    have hl3 : bt (A 15 3) 0 10 := (hr.1.2.2.2.2.2.1.1 3 (by decide)).2
    obtain ⟨Ia, Aa, q1, q2, q3, q4⟩ := rd_7 (J := J) (B := B) hr.1
    have hsa : SR X GG Ia Aa T (A1 1) := SR_ext hX (fun k k1 k2 => q2 k (by omega)) (fun a k1 k2 j => by rw [q3 a (by omega) (by omega) (by omega)]) (fun _ _ => rfl) hr.1
    have hh : ∀ j, j < 48 → 0 ≤ (fun j => (hdf A j).toInt) j ∧ (fun j => (hdf A j).toInt) j ≤ 100000 := fun j hj => by
      have := hd_v hr.1 hj
      show 0 ≤ (hdf A j).toInt ∧ (hdf A j).toInt ≤ 100000
      omega
    have eka : Ia 32 = nI k := (q2 32 (by decide)).trans ek
    refine rl_bind q1 ?_
    obtain ⟨⟨r, J2, A2, B2⟩, p1, p2, p3⟩ := en_7 (J := J) (B := B) (A' := Aa) hsa eka hk hh hl3 q4 hX hj (fun _ _ => rfl)
    have hrs : ∀ w, w < k → RS (eS (fun j => (hdf A j).toInt) (A 15 3).toInt Aa w 1) w 1 A1 := fun w hw => by
      rw [eS_x (q3 10 (by decide) (by decide) (by decide)) (q3 14 (by decide) (by decide) (by decide)) (q3 13 (by decide) (by decide) (by decide)) (q3 31 (by decide) (by decide) (by decide)) (q3 15 (by decide) (by decide) (by decide))]
      exact rb_w hr.1 ek hk hw
    obtain ⟨⟨r', J3, A3, B3⟩, s1, s2, s3⟩ := en_8 (I1 := I1) (J1 := J1) (B1 := B1) hsa eka hk hh hl3 hrs e1 (wy_2 hsa eka hk (fun _ _ _ => rfl)) hj
    refine rl_bind p1 (rr_bind s1 ?_)
    have p2 : r = _ := p2
    have s2 : r' = _ := s2
    have hre : RE X GG Ia J2 A2 B2 T M I1 J3 A3 B3 := by
      refine RE_br hX (fun k hk => q2 k (by omega)) (fun a ha => ?_) (fun _ _ => rfl) (fun a ha => s3 a (by omega)) hr
      exact (p3 a (by omega)).trans (q3 a (by omega) (by omega) (by omega))
    show RB (gv (if r = 0 then 0 else 1) _) (if r' = 0 then _ else _) _
    rw [p2, s2]
    refine rl_gv ?_
    split
    · exact rr_f (by decide) (rb_some ⟨rfl, hre⟩)
    · exact rr_t rfl (rb_some ⟨rfl, hre⟩)
  obtain ⟨⟨r, I2, J2, A2, B2⟩, ⟨r', J3, A3, B3⟩, h1, h2, h3, h4⟩ := hb
  cases h3
  exact ⟨r, I2, J2, A2, B2, J3, A3, B3, h1, h2, h4⟩
end T6
