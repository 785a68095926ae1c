section ZI
variable {I I1 : Nat → Int32} {J J1 : Nat → Int64} {A A1 : Nat → Nat → Int32} {B B1 : Nat → Nat → Int64} {T : Nat → Option Txt} {M : Nat → Option Img} {e : Nat → Nat → Int} {j : Nat} {X : Txt → Int32 → (Nat → Int32) → (Nat → Int32) → Prop}
theorem aj24 {x1 x2 x3 : Int32} : ∀ (m f i : Nat) (B : Nat → Nat → Int64), i + m = 10 → m < f → ∃ B2, lX8_asksJoint_24 f x1 x2 x3 (nI i) I J A B = some B2 ∧ (∀ b, ¬ b = 32 → B2 b = B b) ∧ (∀ j, i ≤ j → j < 10 → B2 32 j = 0) ∧ ∀ j, j < i → B2 32 j = B 32 j := by
  intro m
  induction m with
  | zero =>
    intro f i B hi hf
    obtain ⟨f, rfl⟩ : ∃ g, f = g + 1 := ⟨f - 1, by omega⟩
    have : i = 10 := hi
    subst this
    rw [lX8_asksJoint_24, if_pos (by decide)]
    exact ⟨B, rfl, fun _ _ => rfl, fun j _ _ => by omega, fun _ _ => rfl⟩
  | succ m ih =>
    intro f i B hi hf
    obtain ⟨f, rfl⟩ : ∃ g, f = g + 1 := ⟨f - 1, by omega⟩
    rw [lX8_asksJoint_24, if_neg (show ¬ 10 ≤ nI i by rw [show (10 : Int32) = nI 10 from rfl, nn_le (by decide) (by omega)]; omega), ck, if_pos (inB_n (by omega) (by decide)), ix_n (by omega)]
    dsimp only [gv]
    rw [nI_1]
    obtain ⟨B2, E, a1, a2, a3⟩ := ih f (i + 1) (va_up B 32 (vp_updL (B 32) i 0)) (by omega) (by omega)
    refine ⟨B2, E, fun b hb => (a1 b hb).trans (va_up_ne _ _ hb), fun j h1 h2 => ?_, fun j hj => ?_⟩
    · by_cases c : j = i
      · rw [a3 j (by omega), va_up_self, c]; simp [vp_updL]
      · exact a2 j (by omega) h2
    · rw [a3 j (by omega), va_up_self]
      have : ¬ j = i := by omega
      simp [vp_updL, this]
theorem nar_b {c : Prop} [Decidable c] : vp_nar .boolean (if c then (1 : Int32) else 0) = if c then 1 else 0 := by
  by_cases h : c
  · rw [if_pos h]; decide
  · rw [if_neg h]; decide
theorem b7_x (f : Nat → Int64) (v0 v1 v2 v3 v4 v5 v6 : Int64) (g : Nat → Int64) (hg : g = vp_updL (vp_updL (vp_updL (vp_updL (vp_updL (vp_updL (vp_updL f (ix 0) v0) (ix 1) v1) (ix 2) v2) (ix 3) v3) (ix 4) v4) (ix 5) v5) (ix 6) v6) : g 0 = v0 ∧ g 1 = v1 ∧ g 2 = v2 ∧ g 3 = v3 ∧ g 4 = v4 ∧ g 5 = v5 ∧ g 6 = v6 ∧ g 7 = f 7 ∧ g 8 = f 8 ∧ g 9 = f 9 := by
  rw [show ix 0 = 0 from rfl, show ix 1 = 1 from rfl, show ix 2 = 2 from rfl, show ix 3 = 3 from rfl, show ix 4 = 4 from rfl, show ix 5 = 5 from rfl, show ix 6 = 6 from rfl] at hg
  subst hg
  simp [vp_updL]
theorem a4_x (f : Nat → Int32) (v0 v1 v2 v3 : Int32) (g : Nat → Int32) (hg : g = upd (upd (upd (upd f (ix 0) v0) (ix 1) v1) (ix 2) v2) (ix 3) v3) : g 0 = v0 ∧ g 1 = v1 ∧ g 2 = v2 ∧ g 3 = v3 := by
  subst hg
  exact ⟨rfl, rfl, rfl, rfl⟩
def z13 (v : Int32) : Int32 := if (v - v / 2 * 2) = 0 then 1 else 0
theorem fc_2 (hj : j < 48) : nI j / 2 - nI j / 2 / 4 * 4 = nI (j / 2 % 4) := by
  have h := fc_1 hj
  unfold sX1_faceOf at h
  exact Option.some.inj h
theorem tm_3 : sX8_term 3 I1 J1 A1 B1 = some (A1 1 159) := term_8 (k := 3) (by decide)
theorem ld_8 (he : EB e) (hj : j < 48) {x y : Int64} (p3 : y = lI (2000 * dF e (fun _ => false) (j / 8) (j / 2 % 4))) (p4 : x = lI (2 * pF e (fun _ => false) j)) : x / y = ldF e j ∧ nzL y = true := by
  have hd := dF_2 he (show j / 8 < 6 by omega) (show j / 2 % 4 < 4 by omega)
  have hdb : (dF e (fun _ => false) (j / 8) (j / 2 % 4)).natAbs ≤ 839808000 := dF_b he (by omega) (by omega)
  have hpb := pF_b (g := fun _ => false) he hj
  refine ⟨?_, by rw [p3]; exact l_nz (by omega) (by omega)⟩
  rw [p3, p4, l_td (by omega) (by omega) (by omega), td_2 (by omega)]
  rfl
theorem aj_8 {w : Nat} {x2 : Int32} (hrs : RS e w 1 A1) (hs : SR X GG I A T (A1 1)) (hj : j < 48) (hw : w < 16) : SP (sX8_asksJoint (nI j) x2 (nI w) I1 J1 A1 B1) (fun a => (∀ x, ¬ x = 4 → ¬ x = 33 → a.2.1 x = A1 x) ∧ (a.2.2 32 0 = ldF e j ∧ a.2.2 32 1 = (A1 1 (150 + j / 8)).toInt64 ∧ a.2.2 32 2 = (nI (j / 8)).toInt64 ∧ a.2.2 32 3 = (nI (j / 2 % 4)).toInt64 ∧ a.2.2 32 4 = x2.toInt64 ∧ a.2.2 32 5 = (hdf A j).toInt64 ∧ a.2.2 32 6 = (A1 1 159).toInt64 ∧ a.2.2 32 7 = 0 ∧ a.2.2 32 8 = 0 ∧ a.2.2 32 9 = 0) ∧ a.2.1 33 0 = (if A1 1 (48 + j) = 0 then 1 else 0) ∧ a.2.1 33 1 = (if A1 1 (48 + j) = 1 then 1 else 0) ∧ a.2.1 33 2 = (if A1 1 (48 + j) = 1 then (if A1 1 (96 + j) ≤ 0 then 0 else 1) else 0) ∧ a.2.1 33 3 = z13 (A1 1 (165 + 3 * w))) := by
  have hF : FU = 1000000 := rfl
  have he := hrs.1
  have hok : okF e (fun _ => false) (j / 8) = true := ok_0 he (by omega)
  have e8 : nI j / (8 : Int32) = nI (j / 8) := pk_div (by omega) (by decide) (by decide)
  obtain ⟨A3, s1, s2, s3⟩ := ng_9 (I := I1) (J := J1) (A := A1) (B := B1)
  have hrs3 := RS_x hrs (s2 1 (by decide))
  obtain ⟨J3, B3, t1, t2, t3, t4, t5, t6, t7, t8⟩ := ly_8 (g := fun _ => false) (I := I1) (J := J1) (B := B1) hrs3 (fun i h _ => s3 i h) (show j / 8 < 6 by omega)
  have hw0 := ((okF_i _ _ _).mp hok).1
  obtain ⟨J4, p1, p2, p3, p4⟩ := pu_8 (g := fun _ => false) (x := 0) (I := I1) hj hrs3.2.1 hrs3.2.2.2.1 ⟨t4, t5, t6, t7, t8 hw0⟩
  rw [if_pos rfl] at p4
  obtain ⟨hld, hnz⟩ := ld_8 he hj p3 p4
  obtain ⟨B4, E4, b1, b2, -⟩ := aj24 (I := I1) (J := J4) (A := A3) (x1 := nI j) (x2 := x2) (x3 := nI w) 10 FU 0 B3 rfl (by omega)
  have hs3 : SR X GG I A T (A3 1) := by rw [s2 1 (by decide)]; exact hs
  have hh : ∀ (B : Nat → Nat → Int64), sX8_holdsOf (nI j) I1 J4 A3 B = some (hdf A j) := fun B => hold_8 hs3 hj
  have ht : ∀ (B : Nat → Nat → Int64), sX8_term 3 I1 J4 A3 B = some (A3 1 159) := fun B => tm_3
  have hwd : ∀ (A : Nat → Nat → Int32) (B : Nat → Nat → Int64), sX8_windOf (nI w) 0 I1 J4 A B = some (A 1 (165 + 3 * w)) := fun A B => wd_8 (f := 0) hw (by decide)
  have hfc := fc_2 hj
  have i48 : inB (48 + nI j) 8047 = true := by rw [show (48 : Int32) + nI j = nI (48 + j) from nI_add 48 j]; exact inB_n (by omega) (by decide)
  have i96 : inB (96 + nI j) 8047 = true := by rw [show (96 : Int32) + nI j = nI (96 + j) from nI_add 96 j]; exact inB_n (by omega) (by decide)
  have i150 : inB (150 + nI (j / 8)) 8047 = true := by rw [show (150 : Int32) + nI (j / 8) = nI (150 + j / 8) from nI_add 150 _]; exact inB_n (by omega) (by decide)
  have x48 : ix (48 + nI j) = 48 + j := by rw [show (48 : Int32) + nI j = nI (48 + j) from nI_add 48 j, ix_n (by omega)]
  have x96 : ix (96 + nI j) = 96 + j := by rw [show (96 : Int32) + nI j = nI (96 + j) from nI_add 96 j, ix_n (by omega)]
  have x150 : ix (150 + nI (j / 8)) = 150 + j / 8 := by rw [show (150 : Int32) + nI (j / 8) = nI (150 + j / 8) from nI_add 150 _, ix_n (by omega)]
  unfold sX8_asksJoint
  rw [e8]
  refine sp_bind s1 ?_
  refine sp_bind t1 ?_
  refine sp_bind p1 ?_
  refine sp_bind (show lX8_asksJoint_24 FU (nI j) x2 (nI w) 0 I1 J4 A3 B3 = some B4 from E4) ?_
  refine sp_ck hnz ?_
  refine sp_gvG (fun B5 h5 => ?_)
  refine sp_ck i150 ?_
  refine sp_gvG (fun B6 h6 => ?_)
  refine sp_gvG (fun B7 h7 => ?_)
  refine sp_gvG (fun B8 h8 => ?_)
  refine sp_gvG (fun B9 h9 => ?_)
  refine sp_bind (hh _) ?_
  refine sp_gvG (fun B10 h10 => ?_)
  refine sp_bind (ht _) ?_
  refine sp_gvG (fun B11 h11 => ?_)
  refine sp_ck i48 ?_
  refine sp_gvG (fun v4 e4 => ?_)
  refine sp_gvG (fun A4 g4 => ?_)
  refine sp_ck i48 ?_
  refine sp_gvG (fun v5 e5 => ?_)
  refine sp_gvG (fun A5 g5 => ?_)
  refine sp_ck i48 ?_
  have z : ∀ j, j < 10 → B4 32 j = 0 := fun j hj => b2 j (Nat.zero_le _) hj
  have a31 : A3 1 = A1 1 := s2 1 (by decide)
  have a41 : A4 1 = A1 1 := by rw [g4, va_up_ne _ _ (by decide), a31]
  have a51 : A5 1 = A1 1 := by rw [g5, va_up_ne _ _ (by decide), a41]
  have hB : B11 32 0 = ldF e j ∧ B11 32 1 = (A1 1 (150 + j / 8)).toInt64 ∧ B11 32 2 = (nI (j / 8)).toInt64 ∧ B11 32 3 = (nI (j / 2 % 4)).toInt64 ∧ B11 32 4 = x2.toInt64 ∧ B11 32 5 = (hdf A j).toInt64 ∧ B11 32 6 = (A1 1 159).toInt64 ∧ B11 32 7 = 0 ∧ B11 32 8 = 0 ∧ B11 32 9 = 0 := by
    have hg := b7_x (B4 32) (J4 12 / J4 13) ((A3 1 (ix (150 + nI (j / 8)))).toInt64) ((nI (j / 8)).toInt64) ((nI j / 2 - nI j / 2 / 4 * 4).toInt64) (x2.toInt64) ((hdf A j).toInt64) ((A3 1 159).toInt64) (B11 32) (by rw [h11, va_up_self, h10, va_up_self, h9, va_up_self, h8, va_up_self, h7, va_up_self, h6, va_up_self, h5, va_up_self])
    rw [z 7 (by decide), z 8 (by decide), z 9 (by decide), hld, x150, a31, hfc] at hg
    exact hg
  have fin : ∀ (A6 A7 : Nat → Nat → Int32) (v7 y : Int32), A6 = va_up A5 33 (upd (A5 33) (ix 2) (vp_nar .boolean y)) → v7 = (if A6 1 (165 + 3 * w + 0) - A6 1 (165 + 3 * w + 0) / 2 * 2 = 0 then 1 else 0) → A7 = va_up A6 33 (upd (A6 33) (ix 3) (vp_nar .boolean v7)) → (vp_nar .boolean y = if A1 1 (48 + j) = 1 then (if A1 1 (96 + j) ≤ 0 then 0 else 1) else 0) → (∀ a, ¬ a = 4 → ¬ a = 33 → A7 a = A1 a) ∧ (B11 32 0 = ldF e j ∧ B11 32 1 = (A1 1 (150 + j / 8)).toInt64 ∧ B11 32 2 = (nI (j / 8)).toInt64 ∧ B11 32 3 = (nI (j / 2 % 4)).toInt64 ∧ B11 32 4 = x2.toInt64 ∧ B11 32 5 = (hdf A j).toInt64 ∧ B11 32 6 = (A1 1 159).toInt64 ∧ B11 32 7 = 0 ∧ B11 32 8 = 0 ∧ B11 32 9 = 0) ∧ A7 33 0 = (if A1 1 (48 + j) = 0 then 1 else 0) ∧ A7 33 1 = (if A1 1 (48 + j) = 1 then 1 else 0) ∧ A7 33 2 = (if A1 1 (48 + j) = 1 then (if A1 1 (96 + j) ≤ 0 then 0 else 1) else 0) ∧ A7 33 3 = z13 (A1 1 (165 + 3 * w)) := by
    intro A6 A7 v7 y g6 e7 g7 hy
    have a61 : A6 1 = A1 1 := by rw [g6, va_up_ne _ _ (by decide), a51]
    refine ⟨fun a h4 h33 => ?_, hB, ?_⟩
    · rw [g7, va_up_ne _ _ h33, g6, va_up_ne _ _ h33, g5, va_up_ne _ _ h33, g4, va_up_ne _ _ h33, s2 a h4]
    · have hg := a4_x (A3 33) (vp_nar .boolean v4) (vp_nar .boolean v5) (vp_nar .boolean y) (vp_nar .boolean v7) (A7 33) (by rw [g7, va_up_self, g6, va_up_self, g5, va_up_self, g4, va_up_self])
      rw [hy, e4, nar_b, e5, nar_b, e7, nar_b, a31, a41, a61, x48] at hg
      exact hg
  refine sp_gv ?_
  refine sp_gv ?_
  by_cases c1 : A1 1 (48 + j) = 1
  · refine sp_t (by rw [a51, x48]; exact c1) ?_
    refine sp_ck i96 ?_
    by_cases c2 : A1 1 (96 + j) ≤ 0
    · refine sp_t (by rw [a51, x96]; exact c2) ?_
      refine sp_gvG (fun A6 g6 => ?_)
      refine sp_bind (hwd _ _) ?_
      refine sp_gvG (fun v7 e7 => ?_)
      refine sp_gvG (fun A7 g7 => ?_)
      refine sp_some (fin A6 A7 v7 0 g6 e7 g7 ?_)
      rw [if_pos c1, if_pos c2]; decide
    · refine sp_f (by rw [a51, x96]; exact c2) ?_
      refine sp_gvG (fun A6 g6 => ?_)
      refine sp_bind (hwd _ _) ?_
      refine sp_gvG (fun v7 e7 => ?_)
      refine sp_gvG (fun A7 g7 => ?_)
      refine sp_some (fin A6 A7 v7 1 g6 e7 g7 ?_)
      rw [if_pos c1, if_neg c2]; decide
  · refine sp_f (by rw [a51, x48]; exact c1) ?_
    refine sp_gvG (fun A6 g6 => ?_)
    refine sp_bind (hwd _ _) ?_
    refine sp_gvG (fun v7 e7 => ?_)
    refine sp_gvG (fun A7 g7 => ?_)
    refine sp_some (fin A6 A7 v7 0 g6 e7 g7 ?_)
    rw [if_neg c1]; decide
end ZI
