theorem ct_w : ∀ c, c < 21 → cT (nI (cp c + 1)) 0 = nI (256 + c) := by decide +kernel
theorem ct_b : ∀ b, b < 256 → cT (nI (100 + b)) 0 = nI b := by decide +kernel
theorem cp_s : ∀ w, w < 21 → ∃ c, c < 21 ∧ cp c = w := by
  intro w hw
  by_cases h1 : w < 7
  · exact ⟨w, hw, if_pos h1⟩
  · by_cases h2 : w < 11
    · refine ⟨w + 10, by omega, ?_⟩
      unfold cp
      rw [if_neg (by omega), if_neg (by omega)]
      omega
    · refine ⟨w - 4, by omega, ?_⟩
      unfold cp
      rw [if_neg (by omega), if_pos (by omega)]
      omega
/-- the class at the k-th token -/
def AT (tp : Nat → Nat) (z : Nat) (tk vl : Nat → Int32) (k : Nat) (I : Nat → Int32) : Prop := I 82 = nI z ∧ I 80 = nI (st8 tp z k) ∧ ((st8 tp z k < z ∧ I 83 = nI (te tp z (st8 tp z k)) ∧ I 84 = cT (tk k) (vl k) ∧ (tk k = 50 → vl k ≤ 100000 → I 85 = vl k)) ∨ (st8 tp z k = z ∧ I 83 = nI z ∧ I 84 = -1))
section X4
variable {I I1 : Nat → Int32} {J J1 : Nat → Int64} {A A1 : Nat → Nat → Int32} {B B1 : Nat → Nat → Int64} {tp : Nat → Nat} {z p e n : Nat} {tk vl : Nat → Int32}
theorem tw49 (hz : z ≤ 400) (h6 : ∀ i, i < z → tp i < 256 ∧ A 6 i = nI (tp i)) (hpe : p ≤ e) (hez : e ≤ z) (hlt : ∀ i, p ≤ i → i < e → lt8 (tp i) = true) : ∀ (f c : Nat) (I : Nat → Int32), 21 < c + f → c ≤ 21 → (∀ c', c' < c → ¬ mt tp p e (cp c')) → I 84 = -3 → I 80 = nI p → I 83 = nI e → ∃ I2, lX3_takeWord_49 f (nI (256 + c)) I J A B = some I2 ∧ (∀ x, ¬ x = 84 → I2 x = I x) ∧ ((∃ c0, c0 < 21 ∧ mt tp p e (cp c0) ∧ I2 84 = nI (256 + c0)) ∨ (I2 84 = -3 ∧ ∀ c', c' < 21 → ¬ mt tp p e (cp c'))) := by
  intro f
  induction f with
  | zero => intro c I h1 h2; omega
  | succ f ih =>
    intro c I h1 h2 hc e84 e80 e83
    rw [lX3_takeWord_49]
    by_cases w : c = 21
    · subst w
      rw [if_pos (by decide)]
      exact ⟨I, rfl, fun _ _ => rfl, Or.inr ⟨e84, hc⟩⟩
    · rw [if_neg (by rw [show (277 : Int32) = nI 277 from rfl, nn_le (by decide) (by omega)]; omega), if_pos e84, show nI (256 + c) - (256 : Int32) = nI c by rw [show (256 : Int32) = nI 256 from rfl, pk_sub (by omega), Nat.add_sub_cancel_left]]
      obtain ⟨r, r1, r2, r3⟩ := iw_7 (J := J) (B := B) hz h6 hpe hez hlt e80 e83 (show c < 21 by omega)
      rw [r1]
      dsimp only [gv, Option.bind_some]
      rw [nI_1]
      rcases r2 with rfl | rfl
      · rw [if_pos rfl]
        exact ih (c + 1) I (by omega) (by omega) (fun c' h' => by
          by_cases q : c' = c
          · subst q; exact fun m => absurd (r3.mpr m) (by decide)
          · exact hc c' (by omega)) e84 e80 e83
      · rw [if_neg (by decide)]
        obtain ⟨f', rfl⟩ : ∃ f', f = f' + 1 := ⟨f - 1, by omega⟩
        have hres : lX3_takeWord_49 (f' + 1) (nI (256 + c + 1)) (upd I 84 (nI (256 + c))) J A B = some (upd I 84 (nI (256 + c))) := by
          rw [lX3_takeWord_49]
          by_cases q : (277 : Int32) ≤ nI (256 + c + 1)
          · rw [if_pos q]
          · rw [if_neg q, if_neg (by
              rw [upd_s]
              intro h
              have := congrArg Int32.toInt h
              rw [nI_toInt (by omega), show (-3 : Int32).toInt = -3 from rfl] at this
              omega)]
        exact ⟨_, hres, fun x hx => upd_n _ _ hx, Or.inl ⟨c, by omega, r3.mp rfl, upd_s _ _ _⟩⟩
/-- the class comes to the k-th token -/
theorem av_7 (hz : z ≤ 400) (h6 : ∀ i, i < z → tp i < 256 ∧ A 6 i = nI (tp i)) {k q : Nat} (e82 : I 82 = nI z) (e83 : I 83 = nI q) (hq : q ≤ z) (hst : rn bl8 tp z q = st8 tp z k) (htk : st8 tp z k < z → TOK tp z (st8 tp z k) (tk k) (vl k)) : ∃ I2, sX3_advance I J A B = some I2 ∧ AT tp z tk vl k I2 ∧ ∀ x, ¬ x = 80 → ¬ x = 83 → ¬ x = 84 → ¬ x = 85 → I2 x = I x := by
  unfold sX3_advance
  obtain ⟨Ia, a1, a2, a3⟩ := a0_7 (J := J) (B := B) hz h6 FU q I (by unfold FU; omega) hq e82 e83
  rw [a1]
  dsimp only [gv, Option.bind_some]
  rw [hst] at a2
  have hsz := (st_b (tp := tp) (z := z) k).1
  generalize hs : st8 tp z k = s at a2 htk hsz
  generalize hIb : upd Ia 80 (Ia 83) = Ib
  have b83 : Ib 83 = nI s := by subst hIb; exact (upd_n _ _ (by decide)).trans a2
  have b82 : Ib 82 = nI z := by subst hIb; rw [upd_n _ _ (by decide), a3 82 (by decide)]; exact e82
  have b80 : Ib 80 = nI s := by subst hIb; rw [upd_s]; exact a2
  have bo : ∀ x, ¬ x = 80 → ¬ x = 83 → Ib x = I x := fun x x1 x2 => by subst hIb; rw [upd_n _ _ x1]; exact a3 x x2
  rw [b83, b82]
  by_cases hlz : s < z
  · obtain ⟨t1, t2⟩ := h6 s hlz
    have tb := tb_1 _ t1
    have hTOK := htk hlz
    have htb := te_b (tp := tp) (z := z) (p := s) hlz
    rw [if_pos (by rw [nn_lt (by omega) (by omega)]; exact hlz), ck, if_pos (inB_n (by omega) (by decide)), ix_n (by omega), t2, tb.1]
    dsimp only [Option.bind_some]
    rcases hTOK with ⟨hl, x, wx, c1, c2⟩ | ⟨hl, hd, c1, c2⟩ | ⟨hl, hd, c1, c2⟩
    · -- a word
      rw [if_pos hl, if_neg (by decide)]
      have hte : te tp z s = rn lt8 tp z s := by unfold te; rw [if_pos hl]
      have hrs := rn_s (P := lt8) (tp := tp) (z := z) _ s rfl (by omega)
      obtain ⟨Ic, d1, d2, d3⟩ := tw_7 (J := J) (B := B) hz h6 FU s Ib (by unfold FU; omega) (by omega) b82 b83
      unfold sX3_takeWord
      rw [d1]
      dsimp only [gv, Option.bind_some]
      rw [← hte] at d2 hrs
      obtain ⟨Id, f1, f2, f3⟩ := tw49 (J := J) (B := B) (p := s) (e := te tp z s) hz h6 (by omega) htb.2 (fun i i1 i2 => hrs.2.2.1 i i1 i2) FU 0 (upd Ic 84 (-3)) (by unfold FU; omega) (by omega) (fun c' h => by omega) (upd_s _ _ _) (by rw [upd_n _ _ (by decide), d3 80 (by decide)]; exact b80) (by rw [upd_n _ _ (by decide)]; exact d2)
      have f1 : lX3_takeWord_49 FU 256 (upd Ic 84 (-3)) J A B = some Id := f1
      rw [f1]
      have g : ∀ y, ¬ y = 83 → ¬ y = 84 → Id y = Ib y := fun y y1 y2 => by rw [f2 y y2, upd_n _ _ y2, d3 y y1]
      refine ⟨Id, rfl, ⟨by rw [g 82 (by decide) (by decide)]; exact b82, by rw [g 80 (by decide) (by decide), hs]; exact b80, Or.inl ⟨by omega, ?_, ?_, ?_⟩⟩, fun y y1 y2 y3 _ => by rw [g y y2 y3]; exact bo y y1 y2⟩
      · rw [f2 83 (by decide), upd_n _ _ (by decide), d2, hs]
      · rw [c1, c2]
        rcases f3 with ⟨c0, h0, m0, e0⟩ | ⟨e0, hno⟩
        · rcases wx with ⟨w1, w2, w3⟩ | ⟨-, w3⟩
          · have := mt_u (by omega) (d_3 c0 h0).1 w3 m0
            rw [e0, show x = cp c0 + 1 by omega, ct_w c0 h0]
          · exact absurd m0 (w3 _ (d_3 c0 h0).1)
        · rcases wx with ⟨w1, w2, w3⟩ | ⟨w1, w3⟩
          · obtain ⟨c, hc, ec⟩ := cp_s (x - 1) (by omega)
            exact absurd (by rw [ec]; exact w3) (hno c hc)
          · rw [e0, w1]
            decide
      · intro h
        rw [c1] at h
        have hx21 : x ≤ 21 := by
          rcases wx with ⟨w1, w2, w3⟩ | ⟨w1, w3⟩ <;> omega
        rw [show (50 : Int32) = nI 50 from rfl, nI_eq (by omega) (by decide)] at h
        omega
    · -- a number
      rw [hl, if_pos (show (if false = true then (1 : Int32) else 0) = 0 from rfl), ck, if_pos (inB_n (by omega) (by decide)), tb.2.2.1, hd]
      dsimp only [Option.bind_some]
      rw [if_neg (show ¬ (if true = true then (1 : Int32) else 0) = 0 by decide)]
      have hte : te tp z s = rn dg8 tp z s := by unfold te; rw [if_neg (by rw [hl]; decide), if_pos hd]
      have hrs := rn_s (P := dg8) (tp := tp) (z := z) _ s rfl (by omega)
      obtain ⟨Ic, d1, d2, d3, d4⟩ := tn_7 (J := J) (B := B) hz h6 (p := s) FU s (upd Ib 85 0) (by unfold FU; omega) (Nat.le_refl _) (by omega) (fun i i1 i2 => by omega) ((upd_n _ _ (by decide)).trans b82) ((upd_n _ _ (by decide)).trans b83) (by rw [upd_s, Nat.sub_self]; rfl)
      unfold sX3_takeNumber
      dsimp only [gv]
      rw [d1]
      dsimp only [Option.bind_some]
      rw [← hte] at d2 d3 hrs
      have hb : nf tp s (te tp z s - s) ≤ 10000009 := nf_b _ (fun i hi => (dg_b (hrs.2.2.1 (s + i) (by omega) (by omega))).2)
      have hcn : cn8 (nf tp s (te tp z s - s)) ≤ 100001 := by unfold cn8; split <;> omega
      have g : ∀ y, ¬ y = 83 → ¬ y = 85 → Ic y = Ib y := fun y y1 y2 => by rw [d4 y y1 y2, upd_n _ _ y2]
      refine ⟨_, rfl, ⟨by rw [upd_n _ _ (by decide), g 82 (by decide) (by decide)]; exact b82, by rw [upd_n _ _ (by decide), g 80 (by decide) (by decide), hs]; exact b80, Or.inl ⟨by omega, ?_, ?_, ?_⟩⟩, fun y y1 y2 y3 y4 => by rw [upd_n _ _ y3, g y y2 y4]; exact bo y y1 y2⟩
      · rw [upd_n _ _ (by decide), d2, hs]
      · rw [upd_s, d3, c1, c2]
        unfold cT
        rw [if_pos rfl]
        by_cases y : nf tp s (te tp z s - s) ≤ 100000
        · rw [show cn8 (nf tp s (te tp z s - s)) = nf tp s (te tp z s - s) from if_pos y]
        · rw [show cn8 (nf tp s (te tp z s - s)) = 100001 from if_neg y, if_neg (by decide), if_neg (by rw [show (100000 : Int32) = nI 100000 from rfl, nn_le (by omega) (by decide)]; exact y)]
      · intro _ h
        rw [c2, show (100000 : Int32) = nI 100000 from rfl, nn_le (by omega) (by decide)] at h
        rw [upd_n _ _ (by decide), d3, c2, show cn8 (nf tp s (te tp z s - s)) = nf tp s (te tp z s - s) from if_pos h]
    · -- a byte by itself
      rw [hl, if_pos (show (if false = true then (1 : Int32) else 0) = 0 from rfl), ck, if_pos (inB_n (by omega) (by decide)), tb.2.2.1, hd]
      dsimp only [Option.bind_some]
      rw [if_pos (show (if false = true then (1 : Int32) else 0) = 0 from rfl), ck, if_pos (inB_n (by omega) (by decide))]
      have hte : te tp z s = s + 1 := by unfold te; rw [if_neg (by rw [hl]; decide), if_neg (by rw [hd]; decide)]
      refine ⟨_, rfl, ⟨by rw [upd_n _ _ (by decide), upd_n _ _ (by decide)]; exact b82, by rw [upd_n _ _ (by decide), upd_n _ _ (by decide), hs]; exact b80, Or.inl ⟨by omega, ?_, ?_, ?_⟩⟩, fun y y1 y2 y3 _ => by rw [upd_n _ _ y2, upd_n _ _ y3]; exact bo y y1 y2⟩
      · rw [upd_s, upd_n _ _ (by decide), b83, nI_1, hs, hte]
      · rw [upd_n _ _ (by decide), upd_s, c1, c2, ct_b _ t1]
      · intro h
        rw [c1, show (50 : Int32) = nI 50 from rfl, nI_eq (by omega) (by decide)] at h
        omega
  · have ez : s = z := by omega
    rw [if_neg (by rw [nn_lt (by omega) (by omega)]; omega)]
    exact ⟨_, rfl, ⟨by rw [upd_n _ _ (by decide)]; exact b82, by rw [upd_n _ _ (by decide), hs]; exact b80, Or.inr ⟨by omega, by rw [upd_n _ _ (by decide), b83, ez], upd_s _ _ _⟩⟩, fun y y1 y2 y3 _ => by rw [upd_n _ _ y3]; exact bo y y1 y2⟩
/-- from a token on to the next -/
theorem av_8 (hz : z ≤ 400) (h6 : ∀ i, i < z → tp i < 256 ∧ A 6 i = nI (tp i)) {k : Nat} (h : AT tp z tk vl k I) (hk : st8 tp z k < z) (htk : st8 tp z (k + 1) < z → TOK tp z (st8 tp z (k + 1)) (tk (k + 1)) (vl (k + 1))) : ∃ I2, sX3_advance I J A B = some I2 ∧ AT tp z tk vl (k + 1) I2 ∧ ∀ x, ¬ x = 80 → ¬ x = 83 → ¬ x = 84 → ¬ x = 85 → I2 x = I x := by
  obtain ⟨h1, h2, h3⟩ := h
  rcases h3 with ⟨-, h4, -⟩ | ⟨h4, -⟩
  · exact av_7 hz h6 h1 h4 (te_b hk).2 (by rw [st8, if_pos hk]) htk
  · omega
end X4
