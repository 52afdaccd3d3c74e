/-! the reference begins a run and goes through it -/
section AG
variable {s : Nat → Int32} {n w : Nat} {v u q : pd_V} {x : Int32}
theorem bg_13 {K : Int32 → Int32 → Int32 → pd_V → Option pd_V} {y1 y2 : Int32} {a : Nat} {v0 : pd_V} {Q : pd_V → Prop} (ha : a < 16) (hK : ∀ u, MA v0 u → u 207 = v0 207 → Sf (K y1 y2 (Int32.ofNat a) u) Q) : ∀ (f j : Nat) (v : pd_V), MA v0 v → v 207 = v0 207 → j ≤ 8 → 8 - j < f → Sf (d_Mo_begin_13 K w f y1 y2 (Int32.ofNat a) (Int32.ofNat j) v) Q := by
  intro f
  induction f with
  | zero => intro j v _ _ _ h; exact absurd h (Nat.not_lt_zero _)
  | succ f ih =>
    intro j v h1 h2 hj hf
    rw [d_Mo_begin_13, decide_eq_decide.mpr (lane8 hj)]
    refine sf_d (fun _ => hK v h1 h2) (fun c => ?_)
    have ej : (Int32.ofNat j).toInt = j := Int32.toInt_ofNat_of_lt (by omega)
    have i : pm_in (((8 : Int32) * Int32.ofNat a) + Int32.ofNat j) 128 = true := in_lane (N := 0) ha (by omega)
    rw [ofN1 j]
    refine sf_c i (sf_c i ?_)
    exact ih (j + 1) _ (MA_w (MA_w h1 (by omega)) (by omega)) (by rw [pd_wa (by decide), pd_wa (by decide)]; exact h2) (by omega) (by omega)
theorem bg_2 {a0 : Nat} {y : Int32} (hw : 4294967296 < w) (h8 : a0 = 0 ∨ a0 = 8) : ∀ (f a : Nat) (v : pd_V), a0 ≤ a → a ≤ a0 + 8 → (∀ j, a0 ≤ j → j < a → v 207 j = 0) → a0 + 8 - a < f → Sf (d_Mo_begin_2 w f (Int32.ofNat a0) y (Int32.ofNat a) v) (fun q => MA v q ∧ ∀ j, a0 ≤ j → j < a0 + 8 → q 207 j = 0) := by
  intro f
  induction f with
  | zero => intro a v _ _ _ h; exact absurd h (Nat.not_lt_zero _)
  | succ f ih =>
    intro a v h1 h2 h3 hf
    rw [d_Mo_begin_2, show Int32.ofNat a0 + (8 : Int32) = Int32.ofNat (a0 + 8) from (Int32.ofNat_add a0 8).symm, le_nat (by omega) (by omega)]
    refine sf_d (fun c => sf_some ⟨MA_r, fun j b1 b2 => h3 j b1 (by omega)⟩) (fun c => ?_)
    have i : pm_in (Int32.ofNat a) 16 = true := in_nat (by omega) (by omega)
    refine bg_13 (v0 := v) (by omega) (fun u hu hu7 => ?_) w 0 v MA_r rfl (by omega) (by omega)
    rw [cl_nat (show a ≤ 1000 by omega), ofN1 a]
    have go : ∀ z : Int32, Sf (d_Mo_begin_2 w f (Int32.ofNat a0) y (Int32.ofNat (a + 1)) (pd_w (pd_w (pd_w u 207 a 0) 208 a 0) 209 a z)) (fun q => MA v q ∧ ∀ j, a0 ≤ j → j < a0 + 8 → q 207 j = 0) := by
      intro z
      refine sf_mono (ih (a + 1) _ (by omega) (by omega) (fun j b1 b2 => ?_) (by omega)) (fun q hq => ⟨MA_t (MA_w (MA_w (MA_w hu (by omega)) (by omega)) (by omega)) hq.1, hq.2⟩)
      rw [pd_w_ne (by decide), pd_w_ne (by decide)]
      by_cases e : j = a
      · rw [e, pd_w_self]
      · rw [pd_w_nk e, hu7]
        exact h3 j b1 (by omega)
    refine sf_c i (sf_c i ?_)
    exact sf_d (fun _ => sf_c i (go _)) (fun _ => sf_c i (go _))
theorem bg_t {a0 : Nat} {y : Int32} (hw : 4294967296 < w) (h8 : a0 = 0 ∨ a0 = 8) : Sf (d_Mo_begin w (Int32.ofNat a0) y v) (fun q => MA v q ∧ ∀ j, a0 ≤ j → j < a0 + 8 → q 207 j = 0) := by
  unfold d_Mo_begin
  exact bg_2 hw h8 w a0 v (by omega) (by omega) (fun j a b => by omega) (by omega)
theorem ag_t (hw : 4294967296 < w) (hn : n ≤ 160) (h0 : ∀ j, n ≤ j → s j = 0) (hW : xR s n []) (hT : TX n s v) (h1 : 0 ≤ (v 198 22).toInt) (h2 : (v 198 22).toInt ≤ 900000) : Sf (d_Mo_again w v) (fun r => MS v r.2) := by
  unfold d_Mo_again
  refine sf_bind (bg_t (a0 := 0) hw (Or.inl rfl)) (fun q1 hq1 => ?_)
  have m1 := MS_A hq1.1
  unfold d_Mo_all
  refine sf_bind (P := fun q => MS v q) ?_ (fun q2 hq2 => sf_d (fun _ => sf_some hq2) (fun _ => sf_some hq2))
  have m2 : MS v (pd_w (pd_w (pd_w (pd_w (pd_w (pd_w q1 198 23 (0 : Int32)) 198 24 (0 : Int32)) 198 25 (0 : Int32)) 198 26 (0 : Int32)) 198 35 (0 : Int32)) 198 36 (255 : Int32)) := MS_k (MS_k (MS_k (MS_k (MS_k (MS_k m1 (by decide)) (by decide)) (by decide)) (by decide)) (by decide)) (by decide)
  have e23 : pd_w (pd_w (pd_w (pd_w (pd_w (pd_w q1 198 23 (0 : Int32)) 198 24 (0 : Int32)) 198 25 (0 : Int32)) 198 26 (0 : Int32)) 198 35 (0 : Int32)) 198 36 (255 : Int32) 198 23 = 0 := by
    rw [pd_w_nk (by decide), pd_w_nk (by decide), pd_w_nk (by decide), pd_w_nk (by decide), pd_w_nk (by decide), pd_w_self]
  have e22 := m2.2 22 (by decide) (by decide) (by decide)
  have z := sI_0
  refine sf_mono (al_m hw hn h0 hW w 0 [] _ (TX_S hT m2) ⟨Nat.zero_le _, ⟨0, rfl⟩, ?_, trivial⟩ ?_ (by rw [e23]; decide) (by rw [e23, e22]; omega) (by rw [e22]; omega) (by rw [e23, e22]; omega)) (fun q hq => MS_t m2 hq)
  · rw [pd_w_nk (by decide), pd_w_self]
    rfl
  · rw [e23]
    refine PS_q (v := q1) (fun j hj => ?_) ?_
    · rw [hq1.2 j (Nat.zero_le _) (by omega), if_neg (by omega)]
      decide
    · rw [pd_wa (by decide), pd_wa (by decide), pd_wa (by decide), pd_wa (by decide), pd_wa (by decide), pd_wa (by decide)]
end AG
