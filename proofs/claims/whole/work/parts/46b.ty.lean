/-! type and compile, and what holds between the calls -/
def TFr (v q : pd_V) : Prop := (∀ d, d ≠ 198 → d ≠ 199 → q d = v d) ∧ (∀ k, k ≠ 0 → k ≠ 2 → q 198 k = v 198 k)
def CX (v q : pd_V) : Prop := (∀ a, a ≠ 198 → a ≠ 201 → a ≠ 202 → a ≠ 212 → a ≠ 219 → q a = v a) ∧ (∀ k, k ≠ 0 → k ≠ 6 → k ≠ 7 → k ≠ 10 → q 198 k = v 198 k)
def CY (s : Nat → Int32) (n : Nat) (v q : pd_V) : Prop := (∀ a, a ≠ 198 → a ≠ 200 → a ≠ 201 → a ≠ 202 → a ≠ 212 → a ≠ 219 → q a = v a) ∧ (∀ k, k ≠ 0 → k ≠ 4 → k ≠ 5 → k ≠ 6 → k ≠ 7 → k ≠ 10 → k ≠ 20 → k ≠ 26 → k ≠ 27 → q 198 k = v 198 k) ∧ TX n s q ∧ q 198 20 = 0 ∧ q 198 26 = 0 ∧ q 198 27 = 0
section YTY
variable {s : Nat → Int32} {n m w N i1 a FU i : Nat} {inp : Nat → Int32} {v u q t : pd_V} {x : Int64} {g : Nat → Int64} {y l1 l2 l3 : Int32} {b : Int}
theorem pf_s {α β γ : Type} {z : β ⊕ γ} {F : β → Option α} {G : γ → Option α} {Q : α → Prop} (h1 : ∀ c, z = .inl c → Pf (F c) Q) (h2 : ∀ c, z = .inr c → Pf (G c) Q) : Pf (Sum.elim F G z) Q := by
  cases z with
  | inl c => exact h1 c rfl
  | inr c => exact h2 c rfl
theorem pf_o {α β : Type} {z : Option β} {A : Option α} {G : β → Option α} {Q : α → Prop} (h1 : z = none → Pf A Q) (h2 : ∀ c, z = some c → Pf (G c) Q) : Pf (Option.elim z A G) Q := by
  cases z with
  | none => exact h1 rfl
  | some c => exact h2 c rfl
theorem ya19 : ∀ (f : Nat) (l4 : Int32) (u : pd_V), (∀ d, d ≠ 1 → d ≠ 2 → u d = v d) → Pf (d_Re_append_19 w f x l4 u) (fun r => ∀ d, d ≠ 1 → d ≠ 2 → r.2 d = v d) := by
  intro f
  induction f with
  | zero => intro l4 u _; rw [d_Re_append_19]; exact pf_none
  | succ f ih =>
    intro l4 u hu
    rw [d_Re_append_19]
    refine pf_b (pf_some hu) (pf_b (pf_some hu) (pf_c (fun _ => ih _ _ (fun d h1 h2 => ?_))))
    rw [pd_wa h1, pd_wa h2]
    exact hu d h1 h2
theorem yty_c : Pf (d_La_type w x y v g) (fun q => ∀ d, d ≠ 1 → d ≠ 2 → q.2.1 d = v d) := by
  unfold d_La_type
  have h : Pf (d_De_type w x y v) (fun q => ∀ d, d ≠ 1 → d ≠ 2 → q.2 d = v d) := by
    unfold d_De_type
    refine pf_b (pf_some (fun _ _ _ => rfl)) (pf_b (pf_some (fun _ _ _ => rfl)) (pf_bind (P := fun _ => True) (fun _ _ => trivial) (fun q3 _ => pf_b ?_ (pf_some (fun _ _ _ => rfl)))))
    have ap : Pf (d_Re_append w x y v) (fun r => ∀ d, d ≠ 1 → d ≠ 2 → r.2 d = v d) := by
      unfold d_Re_append
      exact pf_b (ya19 w _ v (fun _ _ _ => rfl)) (pf_some (fun _ _ _ => rfl))
    exact pf_bind ap (fun q5 h5 => pf_b (pf_some h5) (pf_some h5))
  exact pf_bind h (fun q1 h1 => pf_s (fun c _ => pf_some h1) (fun c _ => pf_b (pf_some h1) (pf_b (pf_some h1) pf_none)))
theorem TFr_0 (h : TFr v u) : TFr v (pd_w u 198 0 y) := ⟨fun d a b => by rw [pd_wa a]; exact h.1 d a b, fun k a b => by rw [pd_w_nk a]; exact h.2 k a b⟩
theorem yth_r : Pf (d_Mo_throwing l1 l2 l3 u) (fun r => ∃ k, r.2 = pd_w u 198 0 k) := by
  unfold d_Mo_throwing
  exact pf_b (pf_b (pf_b (pf_b (pf_some ⟨_, rfl⟩) (pf_some ⟨_, rfl⟩)) (pf_b (pf_some ⟨_, rfl⟩) (pf_some ⟨_, rfl⟩))) (pf_b (pf_some ⟨_, rfl⟩) (pf_some ⟨_, rfl⟩))) (pf_b (pf_some ⟨_, rfl⟩) (pf_some ⟨_, rfl⟩))
theorem yt89 : ∀ (f : Nat) (l5 : Int32) (u : pd_V), TFr v u → Pf (d_Mo_type_89 w f x l5 u) (fun r => TFr v r.2) := by
  intro f
  induction f with
  | zero => intro l5 u _; rw [d_Mo_type_89]; exact pf_none
  | succ f ih =>
    intro l5 u hu
    rw [d_Mo_type_89]
    refine pf_b (pf_some hu) (pf_c (fun _ => ih _ _ ⟨fun d h1 h2 => ?_, fun k h1 h2 => ?_⟩))
    · rw [pd_wa h1, pd_wa h2]
      exact hu.1 d h1 h2
    · rw [pd_w_nk h2, pd_w_ne (by decide)]
      exact hu.2 k h1 h2
theorem yt12 : ∀ (f : Nat) (l4 l5 : Int32), Pf (d_Mo_type_12 w f x y l4 l5 v) (fun r => TFr v r.2) := by
  have r0 : TFr v v := ⟨fun _ _ _ => rfl, fun _ _ _ => rfl⟩
  have th : ∀ {l1 l2 l3 l6 : Int32}, Pf ((d_Mo_throwing l1 l2 l3 v).bind fun q3 => bif decide (q3.1 = 0) then d_Mo_type_89 w w x l6 q3.2 else some ((0 : Int32), q3.2)) (fun r => TFr v r.2) := by
    intro l1 l2 l3 l6
    refine pf_bind yth_r (fun q3 h3 => ?_)
    obtain ⟨k, h3⟩ := h3
    have h3 : TFr v q3.2 := by rw [h3]; exact TFr_0 r0
    exact pf_b (yt89 w _ _ h3) (pf_some h3)
  intro f
  induction f with
  | zero => intro l4 l5; rw [d_Mo_type_12]; exact pf_none
  | succ f ih =>
    intro l4 l5
    rw [d_Mo_type_12]
    exact pf_b (pf_b th (pf_b th th)) (pf_b (pf_b th (pf_b th th)) (ih _ _))
theorem yty_r : Pf (d_Mo_type w x y v) (fun r => TFr v r.2) := by
  unfold d_Mo_type
  exact yt12 w _ _
/-- type in both -/
theorem yty_t (hw : 4294967296 < w) (hJ : J b v) (hK : K5 v) (h7 : K7 v) : ∃ q7 q11, d_La_type w x y v g = some q7 ∧ d_Mo_type w x y q7.2.1 = some q11 ∧ d_Mo_thrown q11.2 = q7.1 ∧ (q7.1 = 0 → lg_cmp (q7.2.2.1 0) (q11.1.toInt64) = 0) ∧ (J b q11.2 ∧ K5 q11.2 ∧ K7 q11.2) ∧ q7.2.2.2 ≤ 1 := by
  obtain ⟨q7, q11, a1, a2, a3, a4, a5, a6⟩ := ztj_t (g := g) (x := x) (n := y) hw hJ hK
  have c1 := yty_c q7 a1
  have c2 := yty_r q11 a2
  have pk : kerOf (v 0 1) = 3 ∨ kerOf (v 0 1) = 88 := ker_of (v 0 1)
  refine ⟨q7, q11, a1, a2, a3, a4, ⟨a5.1, a5.2, K7_e h7 (fun d hd => ?_) (fun d h1 h2 => ?_) ?_ ?_ (fun k hk => ?_)⟩, a6⟩
  · rw [c2.1 d (by omega) (by omega), c1 d (by omega) (by omega)]
  · rw [c2.1 d (by omega) (by omega), c1 d (by omega) (by omega)]
  · rw [c2.1 0 (by decide) (by decide), c1 0 (by decide) (by decide)]
  · rw [c2.1 0 (by decide) (by decide), c1 0 (by decide) (by decide)]
  · rw [c2.2 k (by omega) (by omega), c1 198 (by decide) (by decide)]
/-! the reference compiles -/
theorem CX_r : CX v v := ⟨fun _ _ _ _ _ _ => rfl, fun _ _ _ _ _ => rfl⟩
theorem CX_t (h1 : CX v u) (h2 : CX u t) : CX v t := ⟨fun a b c d e f => (h2.1 a b c d e f).trans (h1.1 a b c d e f), fun k b c d e => (h2.2 k b c d e).trans (h1.2 k b c d e)⟩
theorem CX_L (h : LK v u) : CX v u := ⟨fun a b c _ e _ => h.1 a b c e, fun k _ _ _ e => h.2.1 k e⟩
theorem CX_P (h : MP v u) : CX v u := ⟨fun a b _ _ e f => h.1 a b f e, fun k _ c _ _ => h.2 k c⟩
theorem CX_k {k : Nat} (h : CX v u) (hk : k = 0 ∨ k = 6 ∨ k = 7 ∨ k = 10) : CX v (pd_w u 198 k y) := ⟨fun a b c d e f => by rw [pd_wa b]; exact h.1 a b c d e f, fun i a b c d => by rw [pd_w_nk (by omega)]; exact h.2 i a b c d⟩
theorem CX_w {k : Nat} (h : CX v u) (ha : a = 201 ∨ a = 202) : CX v (pd_w u a k y) := ⟨fun d b c e f g => by rw [pd_wa (by omega)]; exact h.1 d b c e f g, fun i b c d e => by rw [pd_w_ne (by omega)]; exact h.2 i b c d e⟩
theorem DR_X (h : DR n s v) (e : CX v u) : DR n s u := ⟨by rw [e.2 2 (by decide) (by decide) (by decide) (by decide)]; exact h.1, fun j hj => by rw [e.1 199 (by decide) (by decide) (by decide) (by decide) (by decide)]; exact h.2 j hj⟩
theorem yc95 : ∀ (f : Nat) (l : Int32) (u : pd_V), CX v u → Pf (d_Mo_compile_95 w f l u) (fun r => r.1 = 2 ∧ CX v r.2) := by
  intro f
  induction f with
  | zero => intro l u _; rw [d_Mo_compile_95]; exact pf_none
  | succ f ih =>
    intro l u hu
    rw [d_Mo_compile_95]
    exact pf_b (pf_some ⟨rfl, hu⟩) (pf_c (fun _ => pf_c (fun _ => pf_c (fun _ => ih _ _ (CX_w hu (Or.inl rfl))))))
theorem yc123 (hn : n ≤ 160) : ∀ (f c : Nat) (u : pd_V), c ≤ n → DR n s u → (∀ d, d ≠ 198 → d ≠ 200 → d ≠ 201 → d ≠ 202 → d ≠ 212 → d ≠ 219 → u d = v d) → (∀ k, k ≠ 0 → k ≠ 6 → k ≠ 7 → k ≠ 10 → u 198 k = v 198 k) → (∀ j, j < c → u 200 j = s j) → Pf (d_Mo_compile_123 w f (Int32.ofNat c) u) (fun r => r.1 = 0 ∧ CY s n v r.2) := by
  intro f
  induction f with
  | zero => intro c u _ _ _ _ _; rw [d_Mo_compile_123]; exact pf_none
  | succ f ih =>
    intro c u hc hD h1 h2 h3
    rw [d_Mo_compile_123, hD.1, le_nat (by omega) (by omega)]
    refine pf_d (fun hc2 => pf_some ⟨rfl, ?_⟩) (fun hc2 => ?_)
    · have hcn : c = n := by omega
      subst hcn
      refine ⟨fun a b c d e f g => ?_, fun k k0 k4 k5 k6 k7 k10 k20 k26 k27 => ?_, ⟨?_, fun j hj => ?_⟩, ?_, ?_, ?_⟩
      · dsimp only
        rw [pd_wa b, pd_wa b, pd_wa b, pd_wa b, pd_wa b]; exact h1 a b c d e f g
      · dsimp only
        rw [pd_w_nk k27, pd_w_nk k26, pd_w_nk k20, pd_w_nk k5, pd_w_nk k4]; exact h2 k k0 k6 k7 k10
      · dsimp only
        rw [pd_w_nk (by decide), pd_w_nk (by decide), pd_w_nk (by decide), pd_w_nk (by decide), pd_w_self]
      · dsimp only
        rw [pd_w_ne (by decide), pd_w_ne (by decide), pd_w_ne (by decide), pd_w_ne (by decide), pd_w_ne (by decide)]; exact h3 j hj
      · dsimp only
        rw [pd_w_nk (by decide), pd_w_nk (by decide), pd_w_self]
      · dsimp only
        rw [pd_w_nk (by decide), pd_w_self]
      · dsimp only
        rw [pd_w_self]
    · rw [ofN1 c, cl_nat (show c ≤ 1000 by omega)]
      refine pf_c (fun _ => pf_c (fun _ => ih (c + 1) _ (by omega) ⟨?_, fun j hj => ?_⟩ (fun d a b e f g i => ?_) (fun k a b e f => ?_) (fun j hj => ?_)))
      · rw [pd_w_ne (by decide)]; exact hD.1
      · rw [pd_w_ne (by decide)]; exact hD.2 j hj
      · rw [pd_wa b]; exact h1 d a b e f g i
      · rw [pd_w_ne (by decide)]; exact h2 k a b e f
      · by_cases e : j = c
        · rw [e, pd_w_self]
          exact hD.2 c (by omega)
        · rw [pd_w_nk e]
          exact h3 j (by omega)
theorem yc57 (hw : 4294967296 < w) (hn : n ≤ 160) (h0 : ∀ j, n ≤ j → s j = 0) (hW : xR s n []) (hD : DR n s v) : ∀ (f : Nat) (l : Int32) (u : pd_V), CX v u → Pf (d_Mo_compile_57 w f l u) (fun r => (r.1 = 0 ∧ CY s n v r.2) ∨ (r.1 = 2 ∧ CX v r.2)) := by
  intro f
  induction f with
  | zero => intro l u _; rw [d_Mo_compile_57]; exact pf_none
  | succ f ih =>
    intro l u hu
    rw [d_Mo_compile_57]
    refine pf_b (pf_b ?_ ?_) ?_
    · have h7 : CX v (pd_w u 198 7 (u 198 10)) := CX_k hu (by omega)
      exact pf_mono (yc123 (v := v) hn w 0 _ (Nat.zero_le _) (DR_X hD h7) (fun d a _ c e f g => h7.1 d a c e f g) h7.2 (fun j hj => absurd hj (Nat.not_lt_zero _))) (fun r hr => Or.inl hr)
    · exact pf_mono (yc95 w _ _ (CX_k hu (by omega))) (fun r hr => Or.inr hr)
    · have h10 : CX v (pd_w u 198 10 (-1 : Int32)) := CX_k hu (by omega)
      exact pf_bind (pf_sf (lk_t hw hn h0 hW (DR_X hD h10))) (fun q3 h3 => ih _ q3 (CX_t h10 (CX_L h3)))
theorem yc24 (hw : 4294967296 < w) (hn : n ≤ 160) (h0 : ∀ j, n ≤ j → s j = 0) (hW : xR s n []) (hD : DR n s v) : ∀ (f : Nat) (l : Int32) (u : pd_V), CX v u → Pf (d_Mo_compile_24 w f l u) (fun r => (r.1 = 0 ∧ CY s n v r.2) ∨ (r.1 = 2 ∧ CX v r.2)) := by
  intro f
  induction f with
  | zero => intro l u _; rw [d_Mo_compile_24]; exact pf_none
  | succ f ih =>
    intro l u hu
    rw [d_Mo_compile_24]
    exact pf_b (yc57 hw hn h0 hW hD w _ u hu) (pf_c (fun _ => pf_c (fun _ => pf_c (fun _ => pf_c (fun _ => ih _ _ (CX_w (CX_w hu (Or.inr rfl)) (Or.inl rfl)))))))
theorem ycm_r (hw : 4294967296 < w) (hn : n ≤ 160) (h0 : ∀ j, n ≤ j → s j = 0) (hD : DR n s v) : Pf (d_Mo_compile w v) (fun r => (r.1 = 0 ∧ CY s n v r.2) ∨ (r.1 ≠ 0 ∧ CX v r.2)) := by
  unfold d_Mo_compile
  have x0 : CX v (pd_w v 198 0 (0 : Int32)) := CX_k CX_r (by omega)
  refine pf_bind (pf_sf (it_t hw hn h0 (DR_X hD x0))) (fun q1 h1 => ?_)
  have x1 : CX v q1.2 := CX_t x0 (CX_P h1.2)
  refine pf_n (fun c => ?_) (fun _ => pf_some (Or.inr ⟨show (1 : Int32) ≠ 0 by decide, CX_k x1 (by omega)⟩))
  refine pf_mono (yc24 hw hn h0 (h1.1 c) (DR_X hD x1) w _ q1.2 CX_r) (fun r hr => ?_)
  rcases hr with ⟨a, b⟩ | ⟨a, b⟩
  · refine Or.inl ⟨a, fun d d1 d2 d3 d4 d5 d6 => by rw [b.1 d d1 d2 d3 d4 d5 d6]; exact x1.1 d d1 d3 d4 d5 d6, fun k k0 k4 k5 k6 k7 k10 k20 k26 k27 => by rw [b.2.1 k k0 k4 k5 k6 k7 k10 k20 k26 k27]; exact x1.2 k k0 k6 k7 k10, b.2.2⟩
  · exact Or.inr ⟨by rw [a]; decide, CX_t x1 b⟩
end YTY
