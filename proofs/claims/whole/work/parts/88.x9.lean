section X9
variable {I I1 : Nat → Int32} {J J1 : Nat → Int64} {A A1 : Nat → Nat → Int32} {B B1 : Nat → Nat → Int64} {tp : Nat → Nat} {z n : Nat} {tk vl a6 : Nat → Int32}
theorem cl_0 {c : Int32} : CLo 0 c := ⟨fun h => by omega, fun h => by omega, fun h => by omega, fun h => by omega⟩
theorem cl_3 {c : Int32} : CLo 3 c := ⟨fun h => by omega, fun h => by omega, fun h => by omega, fun h => by omega⟩
theorem cl_4 {c : Int32} : CLo 4 c := ⟨fun h => by omega, fun h => by omega, fun h => by omega, fun h => by omega⟩
/-- a part -/
theorem rd_p (hc : CX tp z n tk vl A1 a6) {d x : Nat} {rs rt r8} (hx : x ≤ 8) (hB : x < 8 → RDS tp z n tk vl J J1 B B1 A1 a6 2 d (rs (nI (x + 1))) (r8 (nI (x + 1)))) : RDS tp z n tk vl J J1 B B1 A1 a6 0 (d + 1) (sX3_readPart_F rs rt (nI x)) (sX8_readPart_F r8 (nI x)) := by
  intro k s l I A I1 h6 hS hs
  have hS0 := hS
  obtain ⟨s1, s2, s3, s4, s5, s6, s7, s8⟩ := hS
  have hn : n ≤ 400 := Nat.le_trans hc.2.2.1.1 hc.1
  have hp := (st_b (tp := tp) (z := z) k).1
  have hz := hc.1
  have kd := (kd_t hc.2.2.1 s1 (fun i hi => (hc.2.1 i hi).1) s2)
  unfold sX3_readPart_F sX8_readPart_F
  rw [fi_1 s8]
  unfold sX8_sign
  dsimp only [gv, Option.bind_some]
  rw [if_neg (show ¬ (1 : Int32) = 0 by decide), if_neg (show ¬ (1 : Int32) = 0 by decide), s6, ck, if_pos (inB_n (by omega) (by decide)), ix_n (by omega), hc.2.2.2.1, hc.2.2.2.2.1, show (100 : Int32) + 91 = nI (100 + 91) from rfl]
  by_cases c : I 84 = 91
  · have c2 := (kd_b kd.1 (b := 91) (by decide)).mp c
    have hk : k < n := by
      by_cases e : k = n
      · rw [(kd.2.1 e).2] at c2
        exact absurd c2 (by decide)
      · omega
    have hst := st_s hc hk
    rw [if_pos c, if_pos c2, br_93]
    obtain ⟨r, I2, A2, I3, b1, b2, b3, b4⟩ := br_g (J := J) (J1 := J1) (B := B) (B1 := B1) (cb := 93) hc h6 hx (by decide) hB hS0 hk hs
    have b1 : brC rs 93 (nI x) I J A B = some (r, I2, A2) := b1
    rw [b1]
    dsimp only [Option.bind_some]
    refine ⟨r, I2, A2, I3, ?_, ?_, b3, ?_⟩
    · rcases b4 with ⟨rfl, -⟩ | ⟨rfl, -⟩ <;> rfl
    · rw [← b2, ← s6]
      rfl
    · rcases b4 with ⟨q, k1, s', l', g1, g2, g3, g4, g5, g6, g7⟩ | q
      · exact Or.inl ⟨q, k1 + 1, s', l', g1, by omega, g3, by unfold slk at g4 ⊢; rw [if_pos (by decide)] at g4 ⊢; omega, g5, cl_0, fun w hw => tr_brs c2 (g7 w hw) g6⟩
      · exact Or.inr q
  · have c2 : ¬ tk k = nI (100 + 91) := fun q => c ((kd_b kd.1 (by decide)).mpr q)
    rw [if_neg c, if_neg c2]
    have fail : ∃ I3, ((sX8_faults I1 J1 A1 B1).bind fun I => some I) = some I3 ∧ FF I A I1 I A I3 ∧ DDp z I I3 := by
      rw [fa_1 s8 s6 (by omega) (hc.2.2.2.2.2 k s1)]
      exact ⟨_, rfl, ⟨fun _ _ _ _ _ _ _ => rfl, fun _ _ => rfl, fun x _ _ h3 => upd_n _ _ h3⟩, ⟨_, 2 * s, hp, s2.2.1, upd_s _ _ _, s5, by omega⟩⟩
    have leaf : k < n → (∀ w : Nat → Int32, w (2 * s) = (if I 84 = -2 then 0 else 1) → w (2 * s + 1) = (if I 84 = -2 then I 85 else I 84) → TRE tk vl w 0 (d + 1) k s (k + 1) (s + 1)) → ∃ r I2 A2 I3, ((sX3_readLeaf I J A B).bind fun a => if a.1 = 0 then some (0, a.2.1, a.2.2) else some ((1 : Int32), a.2.1, a.2.2)) = some (r, I2, A2) ∧ ((sX8_leaf I1 J1 A1 B1).bind fun I => some I) = some I3 ∧ FF I A I1 I2 A2 I3 ∧ ((r = 1 ∧ GX tp z n tk vl 0 (d + 1) k s l A I2 A2 I3) ∨ (r = 0 ∧ DDp z I2 I3)) := by
      intro hk ht
      obtain ⟨r, I2, A2, I3, b1, b2, b3, b4⟩ := lf_b (J := J) (J1 := J1) (B := B) (B1 := B1) hc h6 hS0 hk hs
      have hst := st_s hc hk
      rw [b1, b2]
      dsimp only [Option.bind_some]
      rcases b4 with ⟨rfl, g1, g2, g3, g4⟩ | ⟨rfl, q⟩
      · exact ⟨1, I2, A2, I3, rfl, rfl, b3, Or.inl ⟨rfl, k + 1, s + 1, l + 1, g1, by omega, by omega, by unfold slk; rw [if_pos (by decide)]; omega, g4, cl_0, fun w hw => ht w ((hw _ (by omega) (by omega)).trans g2) ((hw _ (by omega) (by omega)).trans g3)⟩⟩
      · exact ⟨0, I2, A2, I3, rfl, rfl, b3, Or.inr ⟨rfl, q⟩⟩
    have hkn : ¬ tk k = 0 → k < n := fun q => by
      by_cases e : k = n
      · exact absurd (kd.2.1 e).2 q
      · omega
    rcases kd.1 with ⟨y, h1, h2, h3, h4⟩ | ⟨y, h1, h2, h3, h4⟩ | ⟨y, h1, h2, h3, h4⟩ | ⟨h1, h2, h3⟩ | ⟨y, h1, h2, h3⟩ | ⟨h1, h2⟩ | ⟨h1, h2⟩
    · obtain ⟨I3, f1, f2, f3⟩ := fail
      rw [h3, h4]
      refine ⟨0, I, A, I3, ?_, ?_, f2, Or.inr ⟨rfl, f3⟩⟩
      · rw [if_neg (fun q => absurd q.symm (ng_n (by omega) (by decide))), if_pos (show nI (255 + y) < 263 by rw [show (263 : Int32) = nI 263 from rfl, nn_lt (by omega) (by decide)]; omega), if_pos rfl]
      · rw [if_neg (show ¬ nI y = 50 by rw [show (50 : Int32) = nI 50 from rfl, nI_eq (by omega) (by decide)]; omega), if_pos (show nI y < 12 by rw [show (12 : Int32) = nI 12 from rfl, nn_lt (by omega) (by decide)]; omega), f1]
    · obtain ⟨I3, f1, f2, f3⟩ := fail
      rw [h3, h4]
      refine ⟨0, I, A, I3, ?_, ?_, f2, Or.inr ⟨rfl, f3⟩⟩
      · rw [if_neg (fun q => absurd q.symm (ng_n (by omega) (by decide))), if_neg (show ¬ nI (265 + y) < 263 by rw [show (263 : Int32) = nI 263 from rfl, nn_lt (by omega) (by decide)]; omega), if_pos (show 273 ≤ nI (265 + y) by rw [show (273 : Int32) = nI 273 from rfl, nn_le (by decide) (by omega)]; omega), if_pos rfl]
      · rw [if_neg (show ¬ nI y = 50 by rw [show (50 : Int32) = nI 50 from rfl, nI_eq (by omega) (by decide)]; omega), if_pos (show nI y < 12 by rw [show (12 : Int32) = nI 12 from rfl, nn_lt (by omega) (by decide)]; omega), f1]
    · have hn2 : ¬ I 84 = -2 := fun q => absurd (q.symm.trans h4) (ng_n (by omega) (by decide))
      obtain ⟨r, I2, A2, I3, f1, f2, f3, f4⟩ := leaf (hkn (by rw [h3, show (0 : Int32) = nI 0 from rfl, nI_eq (by omega) (by decide)]; omega)) (fun w w1 w2 => by rw [if_neg hn2] at w1 w2; exact tr_val h1 h2 h3 w1 (w2.trans h4))
      refine ⟨r, I2, A2, I3, ?_, ?_, f3, f4⟩
      · rw [if_neg hn2, h4, if_neg (show ¬ nI (251 + y) < 263 by rw [show (263 : Int32) = nI 263 from rfl, nn_lt (by omega) (by decide)]; omega), if_neg (show ¬ 273 ≤ nI (251 + y) by rw [show (273 : Int32) = nI 273 from rfl, nn_le (by decide) (by omega)]; omega)]
        exact f1
      · rw [h3, if_neg (show ¬ nI y = 50 by rw [show (50 : Int32) = nI 50 from rfl, nI_eq (by omega) (by decide)]; omega), if_neg (show ¬ nI y < 12 by rw [show (12 : Int32) = nI 12 from rfl, nn_lt (by omega) (by decide)]; omega), if_neg (show ¬ 21 < nI y by rw [show (21 : Int32) = nI 21 from rfl, nn_lt (by decide) (by omega)]; omega)]
        exact f2
    · have hkk := hkn (by rw [h1]; decide)
      have e85 : I 85 = vl k := by
        rcases s2.2.2 with ⟨-, -, -, q⟩ | ⟨-, -, q⟩
        · exact q h1 h2
        · rw [q] at h3
          exact absurd h3 (by decide)
      obtain ⟨r, I2, A2, I3, f1, f2, f3, f4⟩ := leaf hkk (fun w w1 w2 => by rw [if_pos h3] at w1 w2; exact tr_num h1 w1 (w2.trans e85))
      refine ⟨r, I2, A2, I3, ?_, ?_, f3, f4⟩
      · rw [if_pos h3]
        exact f1
      · rw [if_pos h1, ck, if_pos (inB_n (by omega) (by decide)), if_pos h2]
        exact f2
    · obtain ⟨I3, f1, f2, f3⟩ := fail
      rw [h2, h3]
      refine ⟨0, I, A, I3, ?_, ?_, f2, Or.inr ⟨rfl, f3⟩⟩
      · rw [if_neg (fun q => absurd q.symm (ng_n (by omega) (by decide))), if_pos (show nI y < 263 by rw [show (263 : Int32) = nI 263 from rfl, nn_lt (by omega) (by decide)]; omega), if_pos rfl]
      · rw [if_neg (show ¬ nI (100 + y) = 50 by rw [show (50 : Int32) = nI 50 from rfl, nI_eq (by omega) (by decide)]; omega), if_neg (show ¬ nI (100 + y) < 12 by rw [show (12 : Int32) = nI 12 from rfl, nn_lt (by omega) (by decide)]; omega), if_pos (show 21 < nI (100 + y) by rw [show (21 : Int32) = nI 21 from rfl, nn_lt (by decide) (by omega)]; omega), f1]
    · obtain ⟨I3, f1, f2, f3⟩ := fail
      refine ⟨0, I, A, I3, ?_, ?_, f2, Or.inr ⟨rfl, f3⟩⟩
      · rw [h1, if_neg (show ¬ (-3 : Int32) = -2 by decide), if_pos (show (-3 : Int32) < 263 by decide), if_pos rfl]
      · rcases h2 with h2 | ⟨h2, h3⟩
        · rw [h2, if_neg (show ¬ (0 : Int32) = 50 by decide), if_pos (show (0 : Int32) < 12 by decide), f1]
        · rw [h2, if_pos rfl, ck, if_pos (inB_n (by omega) (by decide)), if_neg h3, if_neg (show ¬ (50 : Int32) < 12 by decide), if_pos (show (21 : Int32) < 50 by decide), f1]
    · obtain ⟨I3, f1, f2, f3⟩ := fail
      refine ⟨0, I, A, I3, ?_, ?_, f2, Or.inr ⟨rfl, f3⟩⟩
      · rw [h1, if_neg (show ¬ (-1 : Int32) = -2 by decide), if_pos (show (-1 : Int32) < 263 by decide), if_pos rfl]
      · rw [h2, if_neg (show ¬ (0 : Int32) = 50 by decide), if_pos (show (0 : Int32) < 12 by decide), f1]
end X9
