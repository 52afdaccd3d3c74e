/-! nine looks, and the first that changes nothing -/
def zL (s : Nat → Int32) (N : Nat) (W : Int32) : Int32 × Int32 := ((xlit s N 0 [] (W, [], -1)).1, (xlit s N 0 [] (W, [], -1)).2.2)
def zit9 (L : Int32 → Int32 × Int32) : Nat → Int32 × Int32 → Int32 × Int32
  | 0, x => x
  | r + 1, x => zit9 L r (L x.1)
section ZCM
variable {s : Nat → Int32} {n w a i1 N : Nat} {v u q : pd_V} {b : Int}
theorem zit_f {L : Int32 → Int32 × Int32} {W : Int32} (h : (L W).1 = W) : ∀ r, zit9 L r (L W) = L W
  | 0 => rfl
  | r + 1 => by
    show zit9 L r (L (L W).1) = L W
    rw [h]
    exact zit_f h r
theorem zit_0 {L : Int32 → Int32 × Int32} {W P P' : Int32} {r : Nat} : zit9 L (r + 1) (W, P) = zit9 L (r + 1) (W, P') := rfl
theorem zfv_m (hw : 4294967296 < w) (hn : n ≤ 160) (ha : ker a) (hN : N ≤ 80) (hx : xit s N (0, []) = some (n, [])) : ∀ (r f : Nat) (P : Int32) (v : pd_V), r < f → r ≤ 9 → v a 3 = Int32.ofNat N → (∀ i, i < N → ZJ s n a i1 i v) → Sf (d_Ke_findVarying_9 w f a P (Int32.ofNat (9 - r)) v) (fun q => (q.2 a 5, q.1) = zit9 (zL s N) r (v a 5, P) ∧ RV a v q.2) := by
  intro r
  induction r with
  | zero =>
    intro f P v hf hr h3 hJ
    obtain ⟨f, rfl⟩ : ∃ g, f = g + 1 := ⟨f - 1, by omega⟩
    rw [d_Ke_findVarying_9]
    refine sf_d (fun _ => sf_some ⟨rfl, RV_r⟩) (fun c => absurd (show (8 : Int32) < Int32.ofNat (9 - 0) by decide) c)
  | succ r ih =>
    intro f P v hf hr h3 hJ
    obtain ⟨f, rfl⟩ : ∃ g, f = g + 1 := ⟨f - 1, by omega⟩
    have hs : Sf (d_Ke_spread w a v) (ZSR s a N 0 [] (v a 5, [], -1) v) := by
      unfold d_Ke_spread
      exact zsp_m hn ha hN N 0 0 [] (v a 5, [], -1) v w (by omega) (by omega) rfl hx h3 hJ rfl rfl
    have h8 : decide ((8 : Int32) < Int32.ofNat (9 - (r + 1))) = false := by
      have e : decide (Int32.ofNat 8 < Int32.ofNat (9 - (r + 1))) = decide (8 < 9 - (r + 1)) := lt_nat (by omega) (by omega)
      exact e.trans (decide_eq_false (by omega))
    rw [d_Ke_findVarying_9, h8]
    refine sf_f ?_
    refine sf_bind hs (fun q2 h2 => ?_)
    obtain ⟨e1, e5, hV⟩ := h2
    have hL : zL s N (v a 5) = (q2.2 a 5, q2.1) := Prod.ext e5.symm e1.symm
    have hz : zit9 (zL s N) (r + 1) (v a 5, P) = zit9 (zL s N) r (zL s N (v a 5)) := rfl
    refine sf_n (fun _ => ?_) (fun c => ?_)
    · rw [ofN1, show 9 - (r + 1) + 1 = 9 - r by omega]
      refine sf_mono (ih f q2.1 q2.2 (by omega) (by omega) (by rw [hV.2 3 (by decide)]; exact h3) (fun i hi => ZJ_V ha (hJ i hi) hV)) (fun q hq => ⟨?_, RV_t hV hq.2⟩)
      rw [hz, hL]
      exact hq.1
    · refine sf_some ⟨?_, hV⟩
      have h1 : (zL s N (v a 5)).1 = v a 5 := by rw [hL]; exact c
      rw [hz, zit_f h1, hL]
theorem zfv_t (hw : 4294967296 < w) (hn : n ≤ 160) (ha : ker a) (hN : N ≤ 80) (hx : xit s N (0, []) = some (n, [])) (h3 : v a 3 = Int32.ofNat N) (hJ : ∀ i, i < N → ZJ s n a i1 i v) : Sf (d_Ke_findVarying w a v) (fun q => (q.2 a 5, q.1) = zit9 (zL s N) 9 (0, -1) ∧ RV a v q.2) := by
  unfold d_Ke_findVarying
  have hV : RV a v (pd_w v a 5 (0 : Int32)) := RV_w RV_r
  refine sf_mono (zfv_m hw hn ha hN hx 9 w (-1) (pd_w v a 5 (0 : Int32)) (by omega) (by omega) (by rw [hV.2 3 (by decide)]; exact h3) (fun i hi => ZJ_V ha (hJ i hi) hV)) (fun q hq => ⟨?_, RV_t hV hq.2⟩)
  have h1 := hq.1
  rw [pd_w_self] at h1
  exact h1
/-! the same in the reference -/
theorem zc123 : ∀ (f c : Nat) (u : pd_V), DR n s u → n ≤ 160 → c ≤ n → n - c < f → Sf (d_Mo_compile_123 w f (Int32.ofNat c) u) (fun r => (r.1 = 0 ∧ r.2 198 5 = 1) ∧ (∀ d, d ≠ 198 → d ≠ 200 → r.2 d = u d) ∧ (∀ k, k ≠ 4 → k ≠ 5 → k ≠ 20 → k ≠ 26 → k ≠ 27 → r.2 198 k = u 198 k)) := by
  intro f
  induction f with
  | zero => intro c u _ _ _ h; exact absurd h (Nat.not_lt_zero _)
  | succ f ih =>
    intro c u hD hn hc hf
    rw [d_Mo_compile_123, hD.1, le_nat (by omega) (by omega)]
    refine sf_d (fun _ => ?_) (fun c1 => ?_)
    · refine sf_some ⟨⟨rfl, ?_⟩, fun d h1 h2 => ?_, fun k h4 h5 h20 h26 h27 => ?_⟩
      · show pd_w (pd_w (pd_w (pd_w (pd_w u 198 4 (Int32.ofNat n)) 198 5 (1 : Int32)) 198 20 (0 : Int32)) 198 26 (0 : Int32)) 198 27 (0 : Int32) 198 5 = 1
        rw [pd_w_nk (by decide), pd_w_nk (by decide), pd_w_nk (by decide), pd_w_self]
      · show pd_w (pd_w (pd_w (pd_w (pd_w u 198 4 (Int32.ofNat n)) 198 5 (1 : Int32)) 198 20 (0 : Int32)) 198 26 (0 : Int32)) 198 27 (0 : Int32) d = u d
        rw [pd_wa h1, pd_wa h1, pd_wa h1, pd_wa h1, pd_wa h1]
      · show pd_w (pd_w (pd_w (pd_w (pd_w u 198 4 (Int32.ofNat n)) 198 5 (1 : Int32)) 198 20 (0 : Int32)) 198 26 (0 : Int32)) 198 27 (0 : Int32) 198 k = u 198 k
        rw [pd_w_nk h27, pd_w_nk h26, pd_w_nk h20, pd_w_nk h5, pd_w_nk h4]
    · have i : pm_in (Int32.ofNat c) 160 = true := in_nat (by omega) (by omega)
      rw [ofN1, cl_nat (by omega)]
      refine sf_c i (sf_c i ?_)
      refine sf_mono (ih (c + 1) (pd_w u 200 c (u 199 c)) ⟨by rw [pd_w_ne (by decide)]; exact hD.1, fun j hj => by rw [pd_w_ne (by decide)]; exact hD.2 j hj⟩ hn (by omega) (by omega)) (fun r hr => ⟨hr.1, fun d h1 h2 => ?_, fun k h4 h5 h20 h26 h27 => ?_⟩)
      · rw [hr.2.1 d h1 h2, pd_wa h2]
      · rw [hr.2.2 k h4 h5 h20 h26 h27, pd_w_ne (by decide)]
theorem zc95 : ∀ (f j : Nat) (u : pd_V), BW u → j ≤ 8 → 8 - j < f → (∀ i, i < j → u 201 i = u 202 i) → Sf (d_Mo_compile_95 w f (Int32.ofNat j) u) (fun r => r.1 = 2 ∧ (∀ i, i < 8 → r.2 201 i = u 202 i) ∧ (∀ d, d ≠ 201 → r.2 d = u d)) := by
  intro f
  induction f with
  | zero => intro j u _ _ h; exact absurd h (Nat.not_lt_zero _)
  | succ f ih =>
    intro j u hB hj hf hi
    rw [d_Mo_compile_95, decide_eq_decide.mpr (lane8 hj)]
    refine sf_d (fun _ => sf_some ⟨rfl, fun i h => hi i (by omega), fun _ _ => rfl⟩) (fun c => ?_)
    have i8 : pm_in (Int32.ofNat j) 8 = true := in_nat (by omega) (by omega)
    rw [ofN1, cl_nat (by omega)]
    have e2 : ∀ i, pd_w u 201 j (u 202 j) 202 i = u 202 i := fun i => pd_w_ne (by decide)
    refine sf_c i8 (sf_c i8 (sf_c (b01 (hB j (by omega))) (sf_mono (ih (j + 1) _ (fun i h => by rw [e2]; exact hB i h) (by omega) (by omega) (fun i h => ?_)) (fun r hr => ⟨hr.1, fun i h => by rw [hr.2.1 i h, e2], fun d h => by rw [hr.2.2 d h, pd_wa h]⟩))))
    rw [e2]
    by_cases e : i = j
    · rw [e, pd_w_self]
    · rw [pd_w_nk e]
      exact hi i (by omega)
/-- what the reference's compile leaves, the text being one -/
def ZKO (X : Int32 × Int32) (B : Nat → Int32) (h5 : Int32) (r : Int32 × pd_V) : Prop := r.2 198 7 = X.2 ∧ ((X.2 < 0 ∧ r.1 = 0 ∧ ZV X.1 r.2 ∧ r.2 198 5 = 1) ∨ (¬ X.2 < 0 ∧ r.1 = 2 ∧ (∀ j, j < 8 → r.2 201 j = B j) ∧ r.2 198 5 = h5))
theorem zc57 {B : Nat → Int32} {h5 : Int32} (hw : 4294967296 < w) (hn : n ≤ 160) (h0 : ∀ j, n ≤ j → s j = 0) (hN : N ≤ 80) (hx : xit s N (0, []) = some (n, [])) : ∀ (r f : Nat) (x : Int32 × Int32) (u : pd_V), r < f → r ≤ 9 → DR n s u → BW u → (∀ j, j < 8 → u 202 j = B j) → u 198 5 = h5 → ZV x.1 u → u 198 10 = x.2 → Sf (d_Mo_compile_57 w f (Int32.ofNat (9 - r)) u) (fun q => ZKO (zit9 (zL s N) r x) B h5 q ∧ q.2 199 = u 199) := by
  intro r
  induction r with
  | zero =>
    intro f x u hf hr hD hB hS h5' hV h10
    obtain ⟨f, rfl⟩ : ∃ g, f = g + 1 := ⟨f - 1, by omega⟩
    rw [d_Mo_compile_57]
    refine sf_d (fun _ => ?_) (fun c => absurd (show (9 : Int32) ≤ Int32.ofNat (9 - 0) by decide) c)
    have e7 : pd_w u 198 7 (u 198 10) 198 7 = x.2 := by rw [pd_w_self]; exact h10
    have D7 : DR n s (pd_w u 198 7 (u 198 10)) := ⟨by rw [pd_w_nk (by decide)]; exact hD.1, fun j hj => by rw [pd_w_ne (by decide)]; exact hD.2 j hj⟩
    have hz : zit9 (zL s N) 0 x = x := rfl
    rw [hz]
    by_cases hc : x.2 < 0
    · have hd : decide (u 198 10 < 0) = true := by rw [h10]; exact decide_eq_true hc
      rw [hd]
      refine sf_tt (sf_mono (zc123 w 0 _ D7 hn (Nat.zero_le _) (by omega)) (fun q hq => ⟨⟨?_, Or.inl ⟨hc, hq.1.1, fun j hj => ?_, hq.1.2⟩⟩, ?_⟩))
      · rw [hq.2.2 7 (by decide) (by decide) (by decide) (by decide) (by decide)]; exact e7
      · rw [hq.2.1 201 (by decide) (by decide), pd_w_ne (by decide)]; exact hV j hj
      · rw [hq.2.1 199 (by decide) (by decide), pd_wa (by decide)]
    · have hd : decide (u 198 10 < 0) = false := by rw [h10]; exact decide_eq_false hc
      rw [hd]
      refine sf_f (sf_mono (zc95 w 0 _ (fun j hj => by rw [pd_w_ne (by decide)]; exact hB j hj) (by omega) (by omega) (fun i hi => absurd hi (Nat.not_lt_zero _))) (fun q hq => ⟨⟨?_, Or.inr ⟨hc, hq.1, fun j hj => ?_, ?_⟩⟩, ?_⟩))
      · rw [hq.2.2 198 (by decide)]; exact e7
      · rw [hq.2.1 j hj, pd_w_ne (by decide)]; exact hS j hj
      · rw [hq.2.2 198 (by decide), pd_w_nk (by decide)]; exact h5'
      · rw [hq.2.2 199 (by decide), pd_wa (by decide)]
  | succ r ih =>
    intro f x u hf hr hD hB hS h5' hV h10
    obtain ⟨f, rfl⟩ : ∃ g, f = g + 1 := ⟨f - 1, by omega⟩
    have h9 : decide ((9 : Int32) ≤ Int32.ofNat (9 - (r + 1))) = false := by
      have e : decide (Int32.ofNat 9 ≤ Int32.ofNat (9 - (r + 1))) = decide (9 ≤ 9 - (r + 1)) := le_nat (by omega) (by omega)
      exact e.trans (decide_eq_false (by omega))
    rw [d_Mo_compile_57, h9]
    refine sf_f ?_
    have Dm : DR n s (pd_w u 198 10 (-1 : Int32)) := ⟨by rw [pd_w_nk (by decide)]; exact hD.1, fun j hj => by rw [pd_w_ne (by decide)]; exact hD.2 j hj⟩
    refine sf_bind (sf_sf (lk_t hw hn h0 ⟨N, hx⟩ Dm) (zlk_t hw hn h0 hN hx Dm (ZV_w hV (by decide)) pd_w_self)) (fun q3 h3 => ?_)
    obtain ⟨hK, hZ, hP, -⟩ := h3
    rw [ofN1, show 9 - (r + 1) + 1 = 9 - r by omega]
    have e202 : q3 202 = u 202 := by rw [hK.1 202 (by decide) (by decide) (by decide), pd_wa (by decide)]
    refine sf_mono (ih f (zL s N x.1) q3 (by omega) (by omega) (DR_L Dm hK) (fun j hj => by rw [e202]; exact hB j hj) (fun j hj => by rw [e202]; exact hS j hj) (by rw [hK.2.1 5 (by decide), pd_w_nk (by decide)]; exact h5') hZ hP) (fun q hq => ⟨hq.1, ?_⟩)
    rw [hq.2, hK.1 199 (by decide) (by decide) (by decide), pd_wa (by decide)]
theorem zbt_z {j : Nat} : zbt 0 j = false := by
  show (0#32).getLsbD j = false
  exact BitVec.getLsbD_zero
theorem zc24 {B : Nat → Int32} {h5 : Int32} (hw : 4294967296 < w) (hn : n ≤ 160) (h0 : ∀ j, n ≤ j → s j = 0) (hN : N ≤ 80) (hx : xit s N (0, []) = some (n, [])) (hB : ∀ j, j < 8 → B j = 0 ∨ B j = 1) : ∀ (f j : Nat) (u : pd_V), j ≤ 8 → 8 - j < f → DR n s u → u 198 5 = h5 → (∀ i, i < j → u 202 i = B i ∧ u 201 i = 0) → (∀ i, j ≤ i → i < 8 → u 201 i = B i) → Sf (d_Mo_compile_24 w f (Int32.ofNat j) u) (fun q => ZKO (zit9 (zL s N) 9 (0, -1)) B h5 q ∧ q.2 199 = u 199) := by
  intro f
  induction f with
  | zero => intro j u _ h; exact absurd h (Nat.not_lt_zero _)
  | succ f ih =>
    intro j u hj hf hD h5' hlo hhi
    rw [d_Mo_compile_24, decide_eq_decide.mpr (lane8 hj)]
    refine sf_d (fun c => ?_) (fun c => ?_)
    · have e : j = 8 := by omega
      subst e
      have hV0 : ZV 0 u := fun i hi => by rw [(hlo i hi).2, zbt_z]; rfl
      have hstep : Sf (d_Mo_compile_57 w w (Int32.ofNat (9 - 9)) u) (fun q => ZKO (zit9 (zL s N) 9 (0, u 198 10)) B h5 q ∧ q.2 199 = u 199) :=
        zc57 hw hn h0 hN hx 9 w (0, u 198 10) u (by omega) (by omega) hD (fun i hi => by rw [(hlo i hi).1]; exact hB i hi) (fun i hi => (hlo i hi).1) h5' hV0 rfl
      rw [show zit9 (zL s N) 9 (0, u 198 10) = zit9 (zL s N) 9 (0, -1) from zit_0 (r := 8)] at hstep
      exact hstep
    · have i8 : pm_in (Int32.ofNat j) 8 = true := in_nat (by omega) (by omega)
      have hb : u 201 j = 0 ∨ u 201 j = 1 := by rw [hhi j (by omega) (by omega)]; exact hB j (by omega)
      rw [ofN1, cl_nat (by omega)]
      refine sf_c i8 (sf_c i8 (sf_c (b01 hb) (sf_c i8 ?_)))
      have D2 : DR n s (pd_w (pd_w u 202 j (u 201 j)) 201 j (0 : Int32)) := ⟨by rw [pd_w_ne (by decide), pd_w_ne (by decide)]; exact hD.1, fun i hi => by rw [pd_w_ne (by decide), pd_w_ne (by decide)]; exact hD.2 i hi⟩
      refine sf_mono (ih (j + 1) _ (by omega) (by omega) D2 (by rw [pd_w_ne (by decide), pd_w_ne (by decide)]; exact h5') (fun i hi => ?_) (fun i h1 h2 => ?_)) (fun q hq => ⟨hq.1, ?_⟩)
      · by_cases e : i = j
        · subst e
          refine ⟨?_, pd_w_self⟩
          rw [pd_w_ne (by decide), pd_w_self]
          exact hhi i (Nat.le_refl _) (by omega)
        · rw [pd_w_ne (by decide), pd_w_nk e, pd_w_nk e, pd_w_ne (by decide)]
          exact hlo i (by omega)
      · rw [pd_w_nk (by omega), pd_w_ne (by decide)]
        exact hhi i (by omega) h2
      · rw [hq.2, pd_wa (by decide), pd_wa (by decide)]
end ZCM
