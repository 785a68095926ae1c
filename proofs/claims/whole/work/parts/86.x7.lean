theorem ng_n {k : Nat} {v : Int32} (hk : k < 2 ^ 31) (hv : v.toInt < 0) : ¬ v = nI k := fun h => by
  rw [h, nI_toInt hk] at hv
  omega
theorem kd_b {c v t : Int32} (h : KD c v t) {b : Nat} (hb : b < 256) : t = nI b ↔ c = nI (100 + b) := by
  rcases h with ⟨x, h1, h2, h3, h4⟩ | ⟨x, h1, h2, h3, h4⟩ | ⟨x, h1, h2, h3, h4⟩ | ⟨h1, h2, h3⟩ | ⟨x, h1, h2, h3⟩ | ⟨h1, h2⟩ | ⟨h1, h2⟩
  · rw [h3, h4, nI_eq (by omega) (by omega), nI_eq (by omega) (by omega)]; omega
  · rw [h3, h4, nI_eq (by omega) (by omega), nI_eq (by omega) (by omega)]; omega
  · rw [h3, h4, nI_eq (by omega) (by omega), nI_eq (by omega) (by omega)]; omega
  · rw [h1, h3, show (50 : Int32) = nI 50 from rfl, nI_eq (by omega) (by omega)]
    exact ⟨fun q => absurd q (ng_n (by omega) (by decide)), fun q => by omega⟩
  · rw [h2, h3, nI_eq (by omega) (by omega), nI_eq (by omega) (by omega)]; omega
  · rw [h1]
    refine ⟨fun q => absurd q (ng_n (by omega) (by decide)), fun q => ?_⟩
    rcases h2 with h2 | ⟨h2, -⟩
    · rw [h2, show (0 : Int32) = nI 0 from rfl, nI_eq (by omega) (by omega)] at q; omega
    · rw [h2, show (50 : Int32) = nI 50 from rfl, nI_eq (by omega) (by omega)] at q; omega
  · rw [h1]
    refine ⟨fun q => absurd q (ng_n (by omega) (by decide)), fun q => ?_⟩
    rw [h2, show (0 : Int32) = nI 0 from rfl, nI_eq (by omega) (by omega)] at q; omega
theorem kd_o {c v t : Int32} (h : KD c v t) {b : Nat} (hb : 1 ≤ b) (hb' : b ≤ 7) : t = nI (255 + b) ↔ c = nI b := by
  rcases h with ⟨x, h1, h2, h3, h4⟩ | ⟨x, h1, h2, h3, h4⟩ | ⟨x, h1, h2, h3, h4⟩ | ⟨h1, h2, h3⟩ | ⟨x, h1, h2, h3⟩ | ⟨h1, h2⟩ | ⟨h1, h2⟩
  · rw [h3, h4, nI_eq (by omega) (by omega), nI_eq (by omega) (by omega)]; omega
  · rw [h3, h4, nI_eq (by omega) (by omega), nI_eq (by omega) (by omega)]; omega
  · rw [h3, h4, nI_eq (by omega) (by omega), nI_eq (by omega) (by omega)]; omega
  · rw [h1, h3, show (50 : Int32) = nI 50 from rfl, nI_eq (by omega) (by omega)]
    exact ⟨fun q => absurd q (ng_n (by omega) (by decide)), fun q => by omega⟩
  · rw [h2, h3, nI_eq (by omega) (by omega), nI_eq (by omega) (by omega)]; omega
  · rw [h1]
    refine ⟨fun q => absurd q (ng_n (by omega) (by decide)), fun q => ?_⟩
    rcases h2 with h2 | ⟨h2, -⟩
    · rw [h2, show (0 : Int32) = nI 0 from rfl, nI_eq (by omega) (by omega)] at q; omega
    · rw [h2, show (50 : Int32) = nI 50 from rfl, nI_eq (by omega) (by omega)] at q; omega
  · rw [h1]
    refine ⟨fun q => absurd q (ng_n (by omega) (by decide)), fun q => ?_⟩
    rw [h2, show (0 : Int32) = nI 0 from rfl, nI_eq (by omega) (by omega)] at q; omega
section X7
variable {I I1 : Nat → Int32} {J J1 : Nat → Int64} {A A1 : Nat → Nat → Int32} {B B1 : Nat → Nat → Int64} {tp : Nat → Nat} {z n : Nat} {tk vl a6 : Nat → Int32}
theorem at_c {I2 : Nat → Int32} {k : Nat} (h : AT tp z tk vl k I) (e : ∀ x, 80 ≤ x → x ≤ 85 → I2 x = I x) : AT tp z tk vl k I2 := by
  unfold AT
  rw [e 80 (by omega) (by omega), e 82 (by omega) (by omega), e 83 (by omega) (by omega), e 84 (by omega) (by omega), e 85 (by omega) (by omega)]
  exact h
theorem sl_b (hc : CX tp z n tk vl A1 a6) {k s l : Nat} (hl : l ≤ 50) (h : 4 * s ≤ 8 * l + st8 tp z k) : s ≤ 200 := by
  have h1 := (st_b (tp := tp) (z := z) k).1
  have h2 := hc.1
  omega
/-- a leaf, both -/
theorem lf_b (hc : CX tp z n tk vl A1 a6) (h6 : A 6 = a6) {k s l : Nat} (hS : SS tp z n tk vl k s l I I1) (hk : k < n) (hs : 4 * s ≤ 8 * l + st8 tp z k) : ∃ r I2 A2 I3, sX3_readLeaf I J A B = some (r, I2, A2) ∧ sX8_leaf I1 J1 A1 B1 = some I3 ∧ FF I A I1 I2 A2 I3 ∧ ((r = 1 ∧ SS tp z n tk vl (k + 1) (s + 1) (l + 1) I2 I3 ∧ A2 89 (2 * s) = (if I 84 = -2 then 0 else 1) ∧ A2 89 (2 * s + 1) = (if I 84 = -2 then I 85 else I 84) ∧ ∀ i, i < 2 * s → A2 89 i = A 89 i) ∨ (r = 0 ∧ DDp z I2 I3)) := by
  obtain ⟨s1, s2, s3, s4, s5, s6, s7, s8⟩ := hS
  have hn : n ≤ 400 := Nat.le_trans hc.2.2.1.1 hc.1
  have hp := (st_b (tp := tp) (z := z) k).1
  have hz := hc.1
  unfold sX3_readLeaf
  by_cases c : l < 50
  · rw [if_pos (by rw [s3, show (50 : Int32) = nI 50 from rfl, nn_lt (by omega) (by decide)]; exact c), le_1 s8 s6 s7 c]
    dsimp only [gv]
    rw [s3, nI_1, upd_n _ _ (show ¬ 84 = 86 by decide), upd_n _ _ (show ¬ 85 = 86 by decide)]
    have key : ∀ x y : Int32, ∃ I2 A2, ((sX3_write x y (upd I 86 (nI (l + 1))) J A B).bind fun a => (sX3_advance a.1 J a.2 B).bind fun I2 => some ((1 : Int32), I2, a.2)) = some (1, I2, A2) ∧ FF I A I1 I2 A2 (upd (upd I1 27 (nI (l + 1))) 26 (nI (k + 1))) ∧ SS tp z n tk vl (k + 1) (s + 1) (l + 1) I2 (upd (upd I1 27 (nI (l + 1))) 26 (nI (k + 1))) ∧ A2 89 (2 * s) = x ∧ A2 89 (2 * s + 1) = y ∧ ∀ i, i < 2 * s → A2 89 i = A 89 i := by
      intro x y
      obtain ⟨A2, w1, w2, w3, w4, w5⟩ := wr_1 (I := upd I 86 (nI (l + 1))) (J := J) (A := A) (B := B) (x := x) (y := y) ((upd_n _ _ (by decide)).trans s5) (show s < 200 by omega)
      rw [w1]
      dsimp only [Option.bind_some]
      obtain ⟨I2, a1, a2, a3⟩ := av_x (J := J) (B := B) hc ((w5 6 (by decide)).trans h6) (k := k) (I := upd (upd I 86 (nI (l + 1))) 90 (nI (2 * (s + 1)))) (at_c s2 (fun x h1 h2 => by rw [upd_n _ _ (by omega), upd_n _ _ (by omega)])) hk
      rw [a1]
      refine ⟨I2, A2, rfl, ⟨fun x h1 h2 h3 h4 h5 h6 => ?_, w5, fun x h1 h2 h3 => ?_⟩, ⟨by omega, a2, ?_, by omega, ?_, ?_, ?_, ?_⟩, w2, w3, fun i hi => w4 i (by omega) (by omega)⟩
      · rw [a3 x h1 h2 h3 h4, upd_n _ _ h6, upd_n _ _ h5]
      · rw [upd_n _ _ h1, upd_n _ _ h2]
      · rw [a3 86 (by decide) (by decide) (by decide) (by decide), upd_n _ _ (by decide), upd_s]
      · rw [a3 90 (by decide) (by decide) (by decide) (by decide), upd_s]
      · exact upd_s _ _ _
      · rw [upd_n _ _ (by decide), upd_s]
      · rw [upd_n _ _ (by decide), upd_n _ _ (by decide)]; exact s8
    by_cases q : I 84 = -2
    · obtain ⟨I2, A2, k1, k2, k3⟩ := key 0 (I 85)
      rw [if_pos q]
      exact ⟨1, I2, A2, _, k1, rfl, k2, Or.inl ⟨rfl, by rw [if_pos q, if_pos q]; exact k3⟩⟩
    · obtain ⟨I2, A2, k1, k2, k3⟩ := key 1 (I 84)
      rw [if_neg q]
      exact ⟨1, I2, A2, _, k1, rfl, k2, Or.inl ⟨rfl, by rw [if_neg q, if_neg q]; exact k3⟩⟩
  · have el : l = 50 := by omega
    subst el
    rw [if_neg (by rw [s3]; decide), le_0 s8 s6 s7 (by omega) (hc.2.2.2.2.2 k (by omega)) (by omega)]
    exact ⟨0, I, A, _, rfl, rfl, ⟨fun _ _ _ _ _ _ _ => rfl, fun _ _ => rfl, fun x h1 h2 h3 => by rw [upd_n _ _ h2, upd_n _ _ h3]⟩, Or.inr ⟨rfl, st8 tp z k, 2 * s, hp, s2.2.1, by rw [upd_n _ _ (by decide), upd_s], s5, by omega⟩⟩
end X7
