/-- brackets, the class -/
def brC (cl : Int32 → (Nat → Int32) → (Nat → Int64) → (Nat → Nat → Int32) → (Nat → Nat → Int64) → Option (Int32 × (Nat → Int32) × (Nat → Nat → Int32))) (cb x : Int32) (I : Nat → Int32) (J : Nat → Int64) (A : Nat → Nat → Int32) (B : Nat → Nat → Int64) : Option (Int32 × (Nat → Int32) × (Nat → Nat → Int32)) :=
  if x < 8 then (sX3_advance I J A B).bind fun I => (cl (x + 1) I J A B).bind fun a => if a.1 = 0 then some (0, a.2.1, a.2.2) else if a.2.1 84 = cb then (sX3_advance a.2.1 J a.2.2 B).bind fun I => some (1, I, a.2.2) else some (0, a.2.1, a.2.2) else some (0, I, A)
/-- brackets, the reference -/
def brR (rs : Int32 → (Nat → Int32) → (Nat → Int64) → (Nat → Nat → Int32) → (Nat → Nat → Int64) → Option (Nat → Int32)) (cb x : Int32) (I : Nat → Int32) (J : Nat → Int64) (A : Nat → Nat → Int32) (B : Nat → Nat → Int64) : Option (Nat → Int32) :=
  gv (fun (I : Nat → Int32) => (sX8_fine I J A B).bind fun r => if r = 0 then (some I) else gv (upd I 26 ((I 26) + 1)) fun I => (rs (x + 1) I J A B).bind fun I => (sX8_sign cb).bind fun r => (sX8_must r I J A B).bind fun I => some I) fun k => if x = 8 then ((sX8_faults I J A B).bind fun I => k I) else k I
section X8
variable {I I1 : Nat → Int32} {J J1 : Nat → Int64} {A A1 : Nat → Nat → Int32} {B B1 : Nat → Nat → Int64} {tp : Nat → Nat} {z n : Nat} {tk vl a6 : Nat → Int32}
theorem br_93 {rs rt} {x : Int32} : sX3_readBracketed_F rs rt x 93 I J A B = brC rs 93 x I J A B := by
  unfold sX3_readBracketed_F brC
  simp only [gv, show ¬ ((93 : Int32) = 41) by decide, if_false]
theorem br_41 {rs rt} {x : Int32} : sX3_readBracketed_F rs rt x 41 I J A B = brC rt 41 x I J A B := by
  unfold sX3_readBracketed_F brC
  simp only [gv, if_true]
theorem br_g (hc : CX tp z n tk vl A1 a6) (h6 : A 6 = a6) {K d x k s l cb : Nat} {cl rs} (hx : x ≤ 8) (hcb : cb < 256) (hB : x < 8 → RDS tp z n tk vl J J1 B B1 A1 a6 K d (cl (nI (x + 1))) (rs (nI (x + 1)))) (hS : SS tp z n tk vl k s l I I1) (hk : k < n) (hs : 4 * s ≤ 8 * l + st8 tp z k) : ∃ r I2 A2 I3, brC cl (nI cb) (nI x) I J A B = some (r, I2, A2) ∧ brR rs (nI cb) (nI x) I1 J1 A1 B1 = some I3 ∧ FF I A I1 I2 A2 I3 ∧ ((r = 1 ∧ ∃ k1 s' l', SS tp z n tk vl (k1 + 1) s' l' I2 I3 ∧ k < k1 ∧ s < s' ∧ 4 * s' + slk K + 2 + (8 * l + st8 tp z k) ≤ 4 * s + (8 * l' + st8 tp z (k1 + 1)) ∧ (∀ i, i < 2 * s → A2 89 i = A 89 i) ∧ tk k1 = nI (100 + cb) ∧ ∀ w : Nat → Int32, (∀ i, 2 * s ≤ i → i < 2 * s' → w i = A2 89 i) → TRE tk vl w K d (k + 1) s k1 s') ∨ (r = 0 ∧ DDp z I2 I3)) := by
  obtain ⟨s1, s2, s3, s4, s5, s6, s7, s8⟩ := hS
  have hn : n ≤ 400 := Nat.le_trans hc.2.2.1.1 hc.1
  have hp := (st_b (tp := tp) (z := z) k).1
  have hz := hc.1
  have hst := st_s hc hk
  unfold brC brR
  dsimp only [gv]
  by_cases c : x < 8
  · rw [if_pos (by rw [show (8 : Int32) = nI 8 from rfl, nn_lt (by omega) (by decide)]; exact c), if_neg (show ¬ nI x = 8 by rw [show (8 : Int32) = nI 8 from rfl, nI_eq (by omega) (by decide)]; omega), fi_1 s8, nI_1, s6, nI_1]
    obtain ⟨Ia, a1, a2, a3⟩ := av_x (J := J) (B := B) hc h6 s2 hk
    rw [a1]
    dsimp only [Option.bind_some]
    rw [if_neg (by decide)]
    obtain ⟨r, Ib, Ab, Ic, b1, b2, b3, b4⟩ := hB c (k + 1) s l Ia A (upd I1 26 (nI (k + 1))) h6 ⟨hk, a2, by rw [a3 86 (by decide) (by decide) (by decide) (by decide)]; exact s3, s4, by rw [a3 90 (by decide) (by decide) (by decide) (by decide)]; exact s5, upd_s _ _ _, (upd_n _ _ (by decide)).trans s7, (upd_n _ _ (by decide)).trans s8⟩ (by omega)
    rw [b1, b2]
    unfold sX8_sign
    dsimp only [Option.bind_some]
    rw [show (100 : Int32) + nI cb = nI (100 + cb) by rw [show (100 : Int32) = nI 100 from rfl, nI_add]]
    have f0 : FF I A I1 Ib Ab Ic := ff_t (A2 := A) (I2 := Ia) (I3 := upd I1 26 (nI (k + 1))) ⟨fun x h1 h2 h3 h4 _ _ => a3 x h1 h2 h3 h4, fun _ _ => rfl, fun x h1 _ _ => upd_n _ _ h1⟩ b3
    rcases b4 with ⟨rfl, k', s', l', g1, g2, g3, g4, g5, g6, g7⟩ | ⟨rfl, p, w, d1, d2, d3, d4, d5⟩
    · obtain ⟨t1, t2, t3, t4, t5, t6, t7, t8⟩ := g1
      rw [if_neg (by decide)]
      have kd := (kd_t hc.2.2.1 t1 (fun i hi => (hc.2.1 i hi).1) t2)
      by_cases y : Ib 84 = nI cb
      · have y2 := (kd_b kd.1 hcb).mp y
        have hk' : k' < n := by
          by_cases e : k' = n
          · rw [(kd.2.1 e).2, show (0 : Int32) = nI 0 from rfl, nI_eq (by decide) (by omega)] at y2
            omega
          · omega
        have hst' := st_s hc hk'
        obtain ⟨Id, e1, e2, e3⟩ := av_x (J := J) (B := B) (A := Ab) hc ((b3.2.1 6 (by decide)).trans h6) t2 hk'
        rw [if_pos y, e1, mu_1 t8 t6 (by omega) (by rw [hc.2.2.2.1]; exact y2)]
        refine ⟨1, Id, Ab, _, rfl, rfl, ff_t f0 ⟨fun x h1 h2 h3 h4 _ _ => e3 x h1 h2 h3 h4, fun _ _ => rfl, fun x h1 _ _ => upd_n _ _ h1⟩, Or.inl ⟨rfl, k', s', l', ⟨hk', e2, by rw [e3 86 (by decide) (by decide) (by decide) (by decide)]; exact t3, t4, by rw [e3 90 (by decide) (by decide) (by decide) (by decide)]; exact t5, upd_s _ _ _, (upd_n _ _ (by decide)).trans t7, (upd_n _ _ (by decide)).trans t8⟩, by omega, g3, by omega, g5, y2, g7⟩⟩
      · rw [if_neg y, mu_0 t8 t6 (by omega) (by rw [hc.2.2.2.1]; exact fun q => y ((kd_b kd.1 hcb).mpr q)) (hc.2.2.2.2.2 k' t1)]
        have hp' := (st_b (tp := tp) (z := z) k').1
        exact ⟨0, Ib, Ab, _, rfl, rfl, ff_t f0 ⟨fun _ _ _ _ _ _ _ => rfl, fun _ _ => rfl, fun x _ _ h3 => upd_n _ _ h3⟩, Or.inr ⟨rfl, _, 2 * s', hp', t2.2.1, upd_s _ _ _, t5, by omega⟩⟩
    · rw [if_pos rfl, mu_d d3 (by omega)]
      exact ⟨0, Ib, Ab, Ic, rfl, rfl, f0, Or.inr ⟨rfl, p, w, d1, d2, d3, d4, d5⟩⟩
  · have ex : x = 8 := by omega
    subst ex
    rw [if_neg (by decide), if_pos (show nI 8 = 8 from rfl), fa_1 s8 s6 (by omega) (hc.2.2.2.2.2 k s1)]
    dsimp only [Option.bind_some]
    rw [fi_0 (upd_s _ _ _) (by omega)]
    dsimp only [Option.bind_some]
    rw [if_pos rfl]
    exact ⟨0, I, A, _, rfl, rfl, ⟨fun _ _ _ _ _ _ _ => rfl, fun _ _ => rfl, fun x _ _ h3 => upd_n _ _ h3⟩, Or.inr ⟨rfl, _, 2 * s, hp, s2.2.1, upd_s _ _ _, s5, by omega⟩⟩
end X8
