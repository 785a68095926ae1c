
theorem ps_7 (x : Int32) : sX7_isPerson x = some (rg x 0 7) := by
  show some _ = _
  rw [rg_upto 7 8 (by decide)]
theorem fc_7 (x : Int32) : sX7_isFact x = some (rg x 0 7) := by
  show some _ = _
  rw [rg_upto 7 8 (by decide)]
theorem ei_8 (x : Int32) : sX8_isEight x = some (rg x 0 7) := by
  show ck (isB (rg x 0 7)) (some (rg x 0 7)) = _
  rw [ck, if_pos (rg_isB _ _ _)]
theorem dy_7 (x : Int32) : sX7_isDay x = some (rg x 0 9999) := rfl
theorem dy_8 (x : Int32) : sX8_isDay x = some (rg x 0 9999) := by
  show ck (isB (rg x 0 9999)) (some (rg x 0 9999)) = _
  rw [ck, if_pos (rg_isB _ _ _)]
section P7
variable {X : Txt → Int32 → (Nat → Int32) → (Nat → Int32) → Prop} {G : Nat → Nat → Int32 → Prop}
theorem ps_fault : PS_fault (RE X G) := by
  intro I J A B T M I1 J1 A1 B1 hr
  exact ⟨I 8, rfl, by rw [hr.2.2.2.2.2.1]; rfl, hr⟩
theorem ps_end (hX : XE X) : PS_end (RE X G) := by
  intro x1 I J A B T M I1 J1 A1 B1 hr
  obtain ⟨h1, h2, ⟨e7, k, hk, ek, hc⟩, h4, h5, h6, h7, h8⟩ := hr
  have hb : RB (sX7_end x1 I J A B) (sX8_end x1 I1 J1 A1 B1) (fun a b => a.1 = b.1 ∧ RE X G a.2 J A B T M b.2 J1 A1 B1) := by
    unfold sX7_end sX8_end
    refine rl_bind (rg_wi _ _ _) (rr_bind (rg_in _ _ _) ?_)
    rw [← e7]
    refine rb_if Iff.rfl (fun _ _ => rb_some ⟨rfl, h1, h2, ⟨e7, k, hk, ek, hc⟩, h4, h5, h6, h7, h8⟩) (fun g _ => ?_)
    obtain ⟨g1, g2⟩ := rg_1 g
    obtain ⟨i, hi, rfl⟩ := nI_of g1
    rw [ek, nn_le hi (by omega)] at g2
    refine rl_gv (rr_gv (rb_some ⟨rfl, ?_⟩))
    exact ⟨SR_ext hX (fun k h1 h2 => upd_n I _ (by omega)) (fun _ _ _ _ => rfl) (fun _ _ => rfl) h1, h2, ⟨rfl, i, by omega, rfl, fun j hj => hc j (by omega)⟩, h4, h5, h6, h7, h8⟩
  obtain ⟨⟨r, I2⟩, ⟨r', I3⟩, q1, q2, q3, q4⟩ := hb
  cases q3
  exact ⟨r, I2, I3, q1, q2, q4⟩
theorem kn_i (i j : Nat) : nI i * (8 : Int32) + nI j = nI (i * 8 + j) := by
  rw [show (8 : Int32) = nI 8 from rfl, pk_mul, nI_add]
theorem kn_k (i j : Nat) : (573 : Int32) + 8 * nI i + nI j = nI (573 + (i * 8 + j)) := by
  rw [show (8 : Int32) = nI 8 from rfl, show (573 : Int32) = nI 573 from rfl, pk_mul, nI_add, nI_add]
  congr 1
  omega
theorem ps_knew : PS_knew (RE X G) := by
  intro x1 x2 I J A B T M I1 J1 A1 B1 hr
  have h16 := hr.1.2.2.2.2.2.2.1
  have hb : RB (sX7_knew x1 x2 I J A B) (sX8_knew x1 x2 I1 J1 A1 B1) (fun r r' => r = r') := by
    unfold sX7_knew sX8_knew
    refine rl_bind (ps_7 _) (rr_bind (ei_8 _) ?_)
    refine rb_if Iff.rfl (fun _ _ => rb_some rfl) (fun g1 _ => ?_)
    refine rl_bind (fc_7 _) (rr_bind (ei_8 _) ?_)
    refine rb_if Iff.rfl (fun _ _ => rb_some rfl) (fun g2 _ => ?_)
    obtain ⟨u1, u2⟩ := rg_1 g1
    obtain ⟨i, hi, rfl⟩ := nI_of2 (n := 7) (by decide) u1 u2
    obtain ⟨u3, u4⟩ := rg_1 g2
    obtain ⟨j, hj, rfl⟩ := nI_of2 (n := 7) (by decide) u3 u4
    rw [kn_i, kn_k]
    refine rl_ck (inB_n (by omega) (by decide)) (rl_gv (rl_gv (rr_ck (inB_n (by omega) (by decide)) (rb_some ?_))))
    rw [ix_n (show i * 8 + j < 2 ^ 31 by omega), ix_n (show 573 + (i * 8 + j) < 2 ^ 31 by omega)]
    rcases h16 (i * 8 + j) (by omega) with ⟨a1, a2⟩ | ⟨a1, a2, a3⟩
    · rw [a1, if_pos rfl, a2]
    · rw [if_neg (fun e => by rw [e] at a3; exact absurd a3 (by decide)), a1]
  obtain ⟨a, b, h1, h2, rfl⟩ := hb
  exact ⟨a, h1, h2, hr⟩
end P7
