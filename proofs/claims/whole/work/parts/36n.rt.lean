/-! a statement -/
section ZRT
variable {s : Nat → Int32} {n m w a b i0 i1 i2 p p' q e j nb : Nat} {v u t : pd_V} {x y : Int32} {k k' : xK}
theorem zst_t (hw : 4294967296 < w) (hn : n ≤ 160) (h0 : ∀ j, n ≤ j → s j = 0) (ha : ker a) (hL : ZL s n a j p k v) (hp : p < n) (h7 : ¬ (s p = 125 ∧ k ≠ [])) : Sf (d_Re_readStatement w v) (ZO s n a j p k) := by
  have pa : a = 3 ∨ a = 88 := ha
  obtain ⟨⟨l1, l2, l3, l4⟩, l5, l6, l7, l8, ⟨i0, l9, l10, l11⟩, l12⟩ := id hL
  have l2' : v 1 2 = Int32.ofNat p := l2
  have hj : j < 80 := by omega
  have e : xsN s n p = s p := by unfold xsN; rw [decide_eq_true hp]; rfl
  unfold d_Re_readStatement
  rw [nx_t hn l1 l2 (by omega)]
  refine sf_sb ?_
  rw [e, l4, l2', l6, l7]
  have add : ∀ y, Sf (d_Ke_addStep a y (Int32.ofNat p) (Int32.ofNat k.length) v) (fun r => r.1 = a + 4 + j ∧ ZE s n a (a + 4 + j) j i0 i0 p k.length p y v r.2) := fun y => ZE_0 ha ⟨rfl, hj⟩ l1 l2 (by omega) l4 l7 l9 l10
  have ns : s p ≠ 63 → s p ≠ 42 → xns s p k = ((xst s p).1, (xst s p).2, k) := fun h1 h2 => xns_s h7 h1 h2
  by_cases c42 : s p = 42
  · have ek : d_Re_kindFor (s p) = 6 := by rw [c42]; decide
    rw [ek]
    refine sf_n (fun _ => ?_) (fun c => absurd c (by decide))
    refine sf_bind (add 6) (fun q4 h4 => ?_)
    rw [h4.1]
    refine sf_bind (zhd_o ha ⟨rfl, hj⟩ h4.2 (by decide) (by decide) hp) (fun q5 h5 => ?_)
    rw [h5.1]
    refine sf_n (fun _ => ?_) (fun c => absurd c (by decide))
    refine sf_d (fun c => absurd c (by decide)) (fun _ => ?_)
    refine sf_d (fun c => absurd c (by decide)) (fun _ => ?_)
    refine sf_d (fun c => absurd c (by decide)) (fun _ => ?_)
    refine sf_d (fun c => absurd c (by decide)) (fun _ => ?_)
    refine sf_d (fun _ => ?_) (fun c => absurd rfl c)
    exact zbk_t hw hn h0 ha hj hL l9 l11 h5.2 (Or.inr c42) ek.symm
  by_cases c63 : s p = 63
  · have ek : d_Re_kindFor (s p) = 5 := by rw [c63]; decide
    rw [ek]
    refine sf_n (fun _ => ?_) (fun c => absurd c (by decide))
    refine sf_bind (add 5) (fun q4 h4 => ?_)
    rw [h4.1]
    refine sf_bind (zhd_o ha ⟨rfl, hj⟩ h4.2 (by decide) (by decide) hp) (fun q5 h5 => ?_)
    rw [h5.1]
    refine sf_n (fun _ => ?_) (fun c => absurd c (by decide))
    refine sf_d (fun c => absurd c (by decide)) (fun _ => ?_)
    refine sf_d (fun c => absurd c (by decide)) (fun _ => ?_)
    refine sf_d (fun c => absurd c (by decide)) (fun _ => ?_)
    refine sf_d (fun _ => ?_) (fun c => absurd rfl c)
    exact zbk_t hw hn h0 ha hj hL l9 l11 h5.2 (Or.inl c63) ek.symm
  have nst := ns c63 c42
  by_cases c79 : s p = 79
  · have ek : d_Re_kindFor (s p) = 1 := by rw [c79]; decide
    rw [xst_O c79] at nst
    rw [ek]
    refine sf_n (fun _ => ?_) (fun c => absurd c (by decide))
    refine sf_bind (add 1) (fun q4 h4 => ?_)
    rw [h4.1]
    refine sf_bind (zhd_o ha ⟨rfl, hj⟩ h4.2 (by decide) (by decide) hp) (fun q5 h5 => ?_)
    rw [h5.1]
    refine sf_n (fun _ => ?_) (fun c => absurd c (by decide))
    refine sf_d (fun c => absurd c (by decide)) (fun _ => ?_)
    refine sf_d (fun c => absurd c (by decide)) (fun _ => ?_)
    refine sf_d (fun c => absurd c (by decide)) (fun _ => ?_)
    refine sf_d (fun c => absurd c (by decide)) (fun _ => ?_)
    refine sf_d (fun c => absurd c (by decide)) (fun _ => ?_)
    refine zex_t hw hn h0 ha hj hL l9 l11 h5.2 nst (by omega) (fun e i2 r g1 g2 g3 _ _ => ?_) h7
    exact ⟨by rw [g2.2.2.2.1]; exact ek.symm, g2.2.2.2.2.1, g2.2.2.2.2.2.1, Or.inl ⟨c79, e, g1, g3⟩⟩
  by_cases c82 : s p = 82
  · have ek : d_Re_kindFor (s p) = 4 := by rw [c82]; decide
    rw [xst_R c82] at nst
    rw [ek]
    refine sf_n (fun _ => ?_) (fun c => absurd c (by decide))
    refine sf_bind (add 4) (fun q4 h4 => ?_)
    rw [h4.1]
    refine sf_bind (zhd_o ha ⟨rfl, hj⟩ h4.2 (by decide) (by decide) hp) (fun q5 h5 => ?_)
    rw [h5.1]
    refine sf_n (fun _ => ?_) (fun c => absurd c (by decide))
    refine sf_d (fun c => absurd c (by decide)) (fun _ => ?_)
    refine sf_d (fun c => absurd c (by decide)) (fun _ => ?_)
    refine sf_d (fun _ => ?_) (fun c => absurd rfl c)
    have g2 := h5.2
    have hR : ZR s n a (a + 4 + j) p k.length i0 q5.2 := ⟨by rw [g2.2.2.2.1]; exact ek.symm, g2.2.2.2.2.1, g2.2.2.2.2.2.1, Or.inr (Or.inl c82)⟩
    have := zfin_t hn h0 ha hj hL l9 l11 g2 nst (by omega) hR h7
    rw [tkc_t hn h0 g2.1.1 g2.1.2.1 (by omega) (by decide)] at this ⊢
    cases z : decide (s (p + 1) = 59) with
    | false => rw [z] at this; exact this
    | true => rw [z] at this; exact this
  by_cases c76 : s p = 76
  · have ek : d_Re_kindFor (s p) = 2 := by rw [c76]; decide
    rw [xst_L c76] at nst
    rw [ek]
    refine sf_n (fun _ => ?_) (fun c => absurd c (by decide))
    refine sf_bind (add 2) (fun q4 h4 => ?_)
    rw [h4.1]
    refine sf_bind (zhd_o ha ⟨rfl, hj⟩ h4.2 (by decide) (by decide) hp) (fun q5 h5 => ?_)
    rw [h5.1]
    refine sf_n (fun _ => ?_) (fun c => absurd c (by decide))
    refine sf_d (fun _ => ?_) (fun c => absurd rfl c)
    refine sf_bind (zrs_e hw hn h0 ha ⟨rfl, hj⟩ h5.2) (fun r hr => ?_)
    rcases hr with ⟨e1, z, z1, z2⟩ | ⟨e1, q1, e, i2, g1, g2, g3, g4, g5, g6, g7, g8, g9⟩
    · rw [e1]
      rw [z1] at nst
      exact sf_d (fun _ => sf_some (Or.inl ⟨rfl, z, k, nst, z2⟩)) (fun c => absurd rfl c)
    · rw [e1]
      rw [g1] at nst
      refine sf_d (fun c => absurd c (by decide)) (fun _ => ?_)
      refine zfin_t hn h0 ha hj hL l9 l11 g8 nst (by omega) ⟨by rw [g8.2.2.2.1]; exact ek.symm, g8.2.2.2.2.1, g8.2.2.2.2.2.1, Or.inr (Or.inr (Or.inl ⟨c76, q1, e, g3, g4, g5, g6, g9⟩))⟩ h7
  by_cases c88 : s p = 88
  · have ek : d_Re_kindFor (s p) = 3 := by rw [c88]; decide
    rw [xst_X c88] at nst
    rw [ek]
    refine sf_n (fun _ => ?_) (fun c => absurd c (by decide))
    refine sf_bind (add 3) (fun q4 h4 => ?_)
    rw [h4.1]
    refine sf_bind (zhd_x hn h0 ha ⟨rfl, hj⟩ h4.2 hp) (fun q5 h5 => ?_)
    rcases h5 with ⟨e1, h5⟩ | ⟨e1, x1, x2, h5, x3, x4⟩
    · rw [e1]
      refine sf_n (fun c => absurd rfl c) (fun _ => sf_some (Or.inl ⟨rfl, ?_⟩))
      rcases h5 with ⟨z1, z2⟩ | ⟨z1, z2, z3⟩
      · rw [z1] at nst
        exact ⟨p + 1, k, nst, z2⟩
      · rw [z1, z2] at nst
        exact ⟨p + 2, k, nst, z3⟩
    · rw [e1]
      rw [x1, x2] at nst
      refine sf_n (fun _ => ?_) (fun c => absurd c (by decide))
      refine sf_d (fun c => absurd c (by decide)) (fun _ => ?_)
      refine sf_d (fun _ => ?_) (fun c => absurd rfl c)
      refine zex_t hw hn h0 ha hj hL l9 l11 h5 nst (by omega) (fun e i2 r g1 g2 g3 g4 g5 => ?_) h7
      exact ⟨by rw [g2.2.2.2.1]; exact ek.symm, g2.2.2.2.2.1, g2.2.2.2.2.2.1, Or.inr (Or.inr (Or.inr (Or.inl ⟨c88, g4.trans x3, g5.trans x4, e, g1, g3⟩)))⟩
  cases cv : xvar (s p) with
  | false =>
    rw [xst_n c79 c82 c76 c88 cv] at nst
    rw [kF_n c79 c82 c76 c88 c63 c42 cv]
    exact sf_n (fun c => absurd rfl c) (fun _ => sf_some (Or.inl ⟨rfl, p, k, nst, l2⟩))
  | true =>
    have ek : d_Re_kindFor (s p) = 0 := kF_v cv
    rw [xst_V cv] at nst
    rw [ek]
    refine sf_n (fun _ => ?_) (fun c => absurd c (by decide))
    refine sf_bind (add 0) (fun q4 h4 => ?_)
    rw [h4.1]
    refine sf_bind (zhd_g hn h0 ha ⟨rfl, hj⟩ h4.2 cv hp) (fun q5 h5 => ?_)
    rcases h5 with ⟨e1, z1, z2⟩ | ⟨e1, x1, h5, x2⟩
    · rw [e1]
      rw [decide_eq_false z1] at nst
      exact sf_n (fun c => absurd rfl c) (fun _ => sf_some (Or.inl ⟨rfl, p + 1, k, nst, z2⟩))
    · rw [e1]
      rw [decide_eq_true x1] at nst
      refine sf_n (fun _ => ?_) (fun c => absurd c (by decide))
      refine sf_d (fun c => absurd c (by decide)) (fun _ => ?_)
      refine sf_d (fun c => absurd c (by decide)) (fun _ => ?_)
      refine sf_d (fun c => absurd c (by decide)) (fun _ => ?_)
      refine sf_d (fun c => absurd c (by decide)) (fun _ => ?_)
      refine sf_d (fun c => absurd c (by decide)) (fun _ => ?_)
      refine zex_t hw hn h0 ha hj hL l9 l11 h5 nst (by omega) (fun e i2 r g1 g2 g3 g4 g5 => ?_) h7
      exact ⟨by rw [g2.2.2.2.1]; exact ek.symm, g2.2.2.2.2.1, g2.2.2.2.2.2.1, Or.inr (Or.inr (Or.inr (Or.inr (Or.inl ⟨cv, g4.trans x2, e, g1, g3⟩))))⟩
end ZRT
