/-! what the other calls leave alone -/
def ZG (v q : pd_V) : Prop := (∀ c, 1 ≤ c → c < 172 → q c = v c) ∧ (∀ c, 198 ≤ c → q c = v c) ∧ (∀ k, k ≤ 3 → q 0 k = v 0 k)
def ZM (v q : pd_V) : Prop := (∀ c, (c < 198 ∨ 199 ≤ c ∧ c ≤ 202) → q c = v c) ∧ (∀ k, (k = 2 ∨ k = 4 ∨ k = 5 ∨ k = 7) → q 198 k = v 198 k)
section ZOT
variable {w n : Nat} {s : Nat → Int32} {v u q : pd_V} {a1 a2 a3 b x : Int32} {g : Nat → Int64}
theorem ZG_r : ZG v v := ⟨fun _ _ _ => rfl, fun _ _ => rfl, fun _ _ => rfl⟩
theorem ZG_t (h1 : ZG v u) (h2 : ZG u q) : ZG v q := ⟨fun c a b => (h2.1 c a b).trans (h1.1 c a b), fun c a => (h2.2.1 c a).trans (h1.2.1 c a), fun k a => (h2.2.2 k a).trans (h1.2.2 k a)⟩
theorem ZG_F {lo hi : Nat} (h : Fr lo hi v q) (hl : 173 ≤ lo ∧ hi ≤ 198) : ZG v q := ⟨fun c _ _ => h c (by omega), fun c _ => h c (by omega), fun k _ => by rw [h 0 (by omega)]⟩
theorem ZG_w {a k : Nat} (h : ZG v u) (ha : (172 ≤ a ∧ a < 198) ∨ (a = 0 ∧ 3 < k)) : ZG v (pd_w u a k x) := by
  refine ZG_t h ⟨fun c _ _ => pd_wa (by omega), fun c _ => pd_wa (by omega), fun j hj => ?_⟩
  rcases ha with ha | ha
  · exact pd_w_ne (by omega)
  · rw [ha.1, pd_w_nk (by omega)]
theorem CF_G (h : ZG v q) : CF v q := by
  refine ⟨fun c hc => h.2.1 c (by omega), by rw [h.1 1 (by omega) (by omega)], fun k => ?_⟩
  unfold KO at *
  rw [h.1 1 (by omega) (by omega), h.1 3 (by omega) (by omega), h.1 88 (by omega) (by omega)]
  exact k
def zLQ (v : pd_V) (r : Int32 × pd_V × (Nat → Int64) × Nat) : Prop := ZG v r.2.1 ∧ r.2.2.2 ≤ 1
theorem zl_varies : Sf (d_La_varies a1 v g) (zLQ v) := by
  unfold d_La_varies
  have h : Sf (d_De_varies a1 v) (fun o => ∀ y, o = Sum.inr y → y = 0 ∨ y = 1) := by
    unfold d_De_varies
    refine sf_bind t_needKernel (fun q1 h1 => sf_e ?_ (fun y hy => sf_some (fun z hz => Or.inr ((Sum.inr.inj hz).symm.trans (h1 y hy)))))
    refine sf_d (fun _ => sf_some (fun z hz => Or.inl (Sum.inr.inj hz).symm)) (fun _ => ?_)
    exact sf_d (fun _ => sf_some (fun z hz => nomatch hz)) (fun _ => sf_some (fun z hz => Or.inl (Sum.inr.inj hz).symm))
  refine sf_bind h (fun q1 h1 => la_s (fun y _ => ?_) (fun y hy => ?_))
  · exact sf_d (fun _ => sf_some ⟨ZG_r, Nat.zero_le _⟩) (fun _ => sf_some ⟨ZG_r, Nat.zero_le _⟩)
  · exact la_x10 (h1 y hy) (sf_some ⟨ZG_r, Nat.le_refl _⟩) (sf_some ⟨ZG_r, Nat.le_refl _⟩)
theorem zl_input : Sf (d_La_input a1 a2 v g) (zLQ v) := by
  unfold d_La_input
  have h : Sf (d_De_input a1 a2 v) (fun o => ZG v o.2 ∧ ∀ y, o.1 = some y → y = 0 ∨ y = 1) := by
    unfold d_De_input
    refine sf_lt rfl (show (0 : Int32).toInt = 0 from by decide) (fun _ => sf_some ⟨ZG_r, fun z hz => Or.inl (Option.some.inj hz).symm⟩) (fun c1 => ?_)
    refine sf_lt rfl (show (16 : Int32).toInt = 16 from by decide) (fun c2 => ?_) (fun _ => sf_some ⟨ZG_r, fun z hz => Or.inl (Option.some.inj hz).symm⟩)
    refine sf_bind t_needNothing (fun q3 h3 => sf_e ?_ (fun y hy => sf_some ⟨ZG_r, fun z hz => Or.inr ((Option.some.inj hz).symm.trans (h3 y hy))⟩))
    exact sf_c (pin (by omega)) (sf_some ⟨ZG_w ZG_r (by omega), fun z hz => nomatch hz⟩)
  refine sf_bind h (fun q1 h1 => sf_e (sf_some ⟨h1.1, Nat.zero_le _⟩) (fun y hy => la_x01 (u := v) (h1.2 y hy) (sf_some ⟨h1.1, Nat.le_refl _⟩) (sf_some ⟨h1.1, Nat.le_refl _⟩)))
theorem zl_lanes : Sf (d_La_lanes a1 v g) (zLQ v) := by
  unfold d_La_lanes
  have h : Sf (d_De_lanes a1 v) (fun o => ZG v o.2 ∧ ∀ y, o.1 = some y → y = 0 ∨ y = 1) := by
    unfold d_De_lanes
    refine sf_d (fun _ => sf_some ⟨ZG_r, fun z hz => Or.inl (Option.some.inj hz).symm⟩) (fun c1 => ?_)
    refine sf_d (fun c2 => ?_) (fun _ => sf_some ⟨ZG_r, fun z hz => Or.inl (Option.some.inj hz).symm⟩)
    refine sf_bind t_needNothing (fun q3 h3 => sf_e ?_ (fun y hy => sf_some ⟨ZG_r, fun z hz => Or.inr ((Option.some.inj hz).symm.trans (h3 y hy))⟩))
    exact sf_some ⟨ZG_w ZG_r (by omega), fun z hz => nomatch hz⟩
  refine sf_bind h (fun q1 h1 => sf_e (sf_some ⟨h1.1, Nat.zero_le _⟩) (fun y hy => la_x01 (u := v) (h1.2 y hy) (sf_some ⟨h1.1, Nat.le_refl _⟩) (sf_some ⟨h1.1, Nat.le_refl _⟩)))
theorem zl_start (hw : 4294967296 < w) : Sf (d_La_start w v g) (zLQ v) := by
  unfold d_La_start
  have h : Sf (d_De_start w v) (fun o => ZG v o.2 ∧ ∀ y, o.1 = some y → y = 1) := by
    unfold d_De_start
    refine sf_bind t_needKernel (fun q1 h1 => sf_e ?_ (fun y hy => sf_some ⟨ZG_r, fun z hz => (Option.some.inj hz).symm.trans (h1 y hy)⟩))
    refine sf_bind (t_To_begin hw (ker_of _)) (fun q2 h2 => sf_some ⟨ZG_F h2 (by omega), fun z hz => nomatch hz⟩)
  refine sf_bind h (fun q1 h1 => sf_e (sf_some ⟨h1.1, Nat.zero_le _⟩) (fun y hy => ?_))
  rw [h1.2 y hy]
  exact sf_some ⟨h1.1, Nat.le_refl _⟩
theorem zl_run (hw : 4294967296 < w) : Sf (d_La_run w a1 v g) (zLQ v) := by
  unfold d_La_run
  have h : Sf (d_De_run w a1 v) (fun o => ZG v o.2 ∧ ∀ y, o.1 = Sum.inr y → y = 0 ∨ y = 1) := by
    unfold d_De_run
    refine sf_bind t_needStarted (fun q1 h1 => sf_e ?_ (fun y hy => sf_some ⟨ZG_r, fun z hz => Or.inr ((Sum.inr.inj hz).symm.trans (h1 y hy))⟩))
    refine sf_bind t_needFuel (fun q2 h2 => sf_e ?_ (fun y hy => sf_some ⟨ZG_r, fun z hz => Or.inl ((Sum.inr.inj hz).symm.trans (h2 y hy))⟩))
    refine sf_bind (t_To_goOn hw (ker_of _)) (fun q3 h3 => ?_)
    have r3 := ZG_F h3 (by omega)
    exact sf_d (fun _ => sf_some ⟨r3, fun z hz => nomatch hz⟩) (fun _ => sf_some ⟨r3, fun z hz => nomatch hz⟩)
  refine sf_bind h (fun q1 h1 => la_s (fun y _ => sf_some ⟨h1.1, Nat.zero_le _⟩) (fun y hy => la_x10 (h1.2 y hy) (sf_some ⟨h1.1, Nat.le_refl _⟩) (sf_some ⟨h1.1, Nat.le_refl _⟩)))
theorem zl_spent : Sf (d_La_spent a1 v g) (zLQ v) := by
  unfold d_La_spent
  have h : Sf (d_De_spent a1 v) (fun o => ∀ y, o = Sum.inr y → y = 0 ∨ y = 1) := by
    unfold d_De_spent
    refine sf_d (fun _ => sf_some (fun z hz => Or.inl (Sum.inr.inj hz).symm)) (fun _ => ?_)
    refine sf_d (fun _ => ?_) (fun _ => sf_some (fun z hz => Or.inl (Sum.inr.inj hz).symm))
    refine sf_bind t_needStarted (fun q1 h1 => sf_e ?_ (fun y hy => sf_some (fun z hz => Or.inr ((Sum.inr.inj hz).symm.trans (h1 y hy)))))
    exact sf_n (fun _ => sf_some (fun z hz => nomatch hz)) (fun _ => sf_some (fun z hz => nomatch hz))
  refine sf_bind h (fun q1 h1 => la_s (fun y _ => sf_some ⟨ZG_r, Nat.zero_le _⟩) (fun y hy => la_x01 (u := v) (h1 y hy) (sf_some ⟨ZG_r, Nat.le_refl _⟩) (sf_some ⟨ZG_r, Nat.le_refl _⟩)))
theorem zl_alone (hw : 4294967296 < w) : Sf (d_La_alone w a1 v g) (zLQ v) := by
  unfold d_La_alone
  have h : Sf (d_De_alone w a1 v) (fun o => ZG v o.2 ∧ ∀ y, o.1 = Sum.inr y → y = 0 ∨ y = 1) := by
    unfold d_De_alone
    refine sf_bind t_needKernel (fun q1 h1 => sf_e ?_ (fun y hy => sf_some ⟨ZG_r, fun z hz => Or.inr ((Sum.inr.inj hz).symm.trans (h1 y hy))⟩))
    refine sf_bind t_needFuel (fun q2 h2 => sf_e ?_ (fun y hy => sf_some ⟨ZG_r, fun z hz => Or.inl ((Sum.inr.inj hz).symm.trans (h2 y hy))⟩))
    refine sf_bind (t_Ap_begin hw) (fun q3 h3 => ?_)
    refine sf_bind (t_Ap_goThrough hw (ker_of _)) (fun q4 h4 => ?_)
    have r4 := ZG_t (ZG_F h3 (by omega)) (ZG_F h4 (by omega))
    exact sf_d (fun _ => sf_some ⟨r4, fun z hz => nomatch hz⟩) (fun _ => sf_some ⟨r4, fun z hz => nomatch hz⟩)
  refine sf_bind h (fun q1 h1 => la_s (fun y _ => sf_some ⟨h1.1, Nat.zero_le _⟩) (fun y hy => la_x10 (h1.2 y hy) (sf_some ⟨h1.1, Nat.le_refl _⟩) (sf_some ⟨h1.1, Nat.le_refl _⟩)))
theorem zl_lane : Sf (d_La_lane b a2 a3 v g) (zLQ v) := by
  unfold d_La_lane
  have h : Sf (d_De_lane b a2 a3 v) (fun o => ∀ y, o = Sum.inr y → y = 0 ∨ y = 1) := by
    unfold d_De_lane
    refine sf_d (fun _ => sf_some (fun z hz => Or.inl (Sum.inr.inj hz).symm)) (fun _ => ?_)
    refine sf_d (fun _ => ?_) (fun _ => sf_some (fun z hz => Or.inl (Sum.inr.inj hz).symm))
    refine sf_bind t_De_crewOf (fun q3 h3 => sf_s (fun y hy => ?_) (fun y hy => sf_some (fun z hz => by rw [← Sum.inr.inj hz]; exact h3.2 y hy)))
    have hc := h3.1 y hy
    have fin : ∀ k : Int32, Sf (some (Sum.inl k : Int32 ⊕ Nat)) (fun o => ∀ y, o = Sum.inr y → y = 0 ∨ y = 1) := fun k => sf_some (fun z hz => nomatch hz)
    refine sf_n (fun _ => ?_) (fun _ => sf_bind (t_Cr_countOf hc) (fun _ _ => fin _))
    refine sf_n (fun _ => ?_) (fun _ => sf_bind (t_Cr_trapOf hc) (fun _ _ => fin _))
    repeat' first
      | exact fin _
      | refine sf_n (fun _ => ?_) (fun _ => ?_)
      | refine sf_d (fun _ => ?_) (fun _ => ?_)
  refine sf_bind h (fun q1 h1 => la_s (fun y _ => sf_some ⟨ZG_r, Nat.zero_le _⟩) (fun y hy => la_x01 (u := v) (h1 y hy) (sf_some ⟨ZG_r, Nat.le_refl _⟩) (sf_some ⟨ZG_r, Nat.le_refl _⟩)))
theorem zl_cell : Sf (d_La_cell b a2 a3 v g) (zLQ v) := by
  unfold d_La_cell
  have h : Sf (d_De_cell b a2 a3 v) (fun o => ∀ y, o = Sum.inr y → y = 0 ∨ y = 1) := by
    unfold d_De_cell
    refine sf_d (fun _ => sf_some (fun z hz => Or.inl (Sum.inr.inj hz).symm)) (fun _ => ?_)
    refine sf_d (fun _ => ?_) (fun _ => sf_some (fun z hz => Or.inl (Sum.inr.inj hz).symm))
    refine sf_bind t_De_crewOf (fun q3 h3 => sf_s (fun y hy => ?_) (fun y hy => sf_some (fun z hz => by rw [← Sum.inr.inj hz]; exact h3.2 y hy)))
    have hc := h3.1 y hy
    refine sf_d (fun _ => sf_bind (t_Cr_variableOf hc) (fun _ _ => sf_some (fun z hz => nomatch hz))) (fun _ => sf_bind (t_Cr_cellOf hc) (fun _ _ => sf_some (fun z hz => nomatch hz)))
  refine sf_bind h (fun q1 h1 => la_s (fun y _ => sf_some ⟨ZG_r, Nat.zero_le _⟩) (fun y hy => la_x01 (u := v) (h1 y hy) (sf_some ⟨ZG_r, Nat.le_refl _⟩) (sf_some ⟨ZG_r, Nat.le_refl _⟩)))
theorem zl_out : Sf (d_La_out b a2 a3 v g) (zLQ v) := by
  unfold d_La_out
  have h : Sf (d_De_out b a2 a3 v) (fun o => ∀ y, o = Sum.inr y → y = 0 ∨ y = 1 ∨ y = 2) := by
    unfold d_De_out
    refine sf_bind t_De_crewOf (fun q3 h3 => sf_s (fun y hy => ?_) (fun y hy => sf_some (fun z hz => by rw [← Sum.inr.inj hz]; exact (h3.2 y hy).elim Or.inl (fun h => Or.inr (Or.inl h)))))
    have hc := h3.1 y hy
    have two : Sf (some (Sum.inr 2 : Int32 ⊕ Nat)) (fun o => ∀ y, o = Sum.inr y → y = 0 ∨ y = 1 ∨ y = 2) := sf_some (fun z hz => Or.inr (Or.inr (Sum.inr.inj hz).symm))
    refine sf_d (fun _ => two) (fun _ => ?_)
    refine sf_d (fun _ => two) (fun _ => ?_)
    refine sf_bind (t_Cr_countOf hc) (fun _ _ => ?_)
    exact sf_d (fun _ => sf_bind (t_Cr_keptOf hc) (fun _ _ => sf_some (fun z hz => nomatch hz))) (fun _ => two)
  refine sf_bind h (fun q1 h1 => la_s (fun y _ => sf_some ⟨ZG_r, Nat.zero_le _⟩) (fun y hy => ?_))
  rcases h1 y hy with e | e | e
  · rw [e]; exact sf_some ⟨ZG_r, Nat.le_refl _⟩
  · rw [e]; exact sf_some ⟨ZG_r, Nat.le_refl _⟩
  · rw [e]; exact sf_some ⟨ZG_r, Nat.le_refl _⟩
end ZOT
section ZOM
variable {w n : Nat} {s : Nat → Int32} {v u q : pd_V} {a1 a2 a3 x : Int32} {b : Int}
theorem ZM_r : ZM v v := ⟨fun _ _ => rfl, fun _ _ => rfl⟩
theorem ZM_t (h1 : ZM v u) (h2 : ZM u q) : ZM v q := ⟨fun c a => (h2.1 c a).trans (h1.1 c a), fun k a => (h2.2 k a).trans (h1.2 k a)⟩
theorem ZM_w {a k : Nat} (h : ZM v u) (ha : 203 ≤ a) : ZM v (pd_w u a k x) := ⟨fun c hc => by rw [pd_wa (by omega)]; exact h.1 c hc, fun j hj => by rw [pd_w_ne (by omega)]; exact h.2 j hj⟩
theorem ZM_k {k : Nat} (h : ZM v u) (hk : k ≠ 2 ∧ k ≠ 4 ∧ k ≠ 5 ∧ k ≠ 7) : ZM v (pd_w u 198 k x) := ⟨fun c hc => by rw [pd_wa (by omega)]; exact h.1 c hc, fun j hj => by rw [pd_w_nk (by omega)]; exact h.2 j hj⟩
theorem ZM_S (h : MS v q) : ZM v q := ⟨fun c hc => h.1 c (by omega), fun k hk => h.2 k (by omega) (by omega) (by omega)⟩
theorem ZM_B (h : MB v q) : ZM v q := ⟨fun c hc => h.1 c (by omega), fun k hk => h.2 k (by omega) (by omega) (by omega)⟩
theorem FM_M (h : ZM v q) : FM v q := ⟨fun c hc => h.1 c (by omega), h.2 2 (by omega)⟩
theorem ZM_Q {r : Int32 × pd_V} (h : QP v r) : ZM v r.2 := by
  obtain ⟨k, e⟩ := h
  rw [e]
  exact ZM_k ZM_r (by decide)
theorem zst_m (hw : 4294967296 < w) (hb : 0 ≤ b ∧ b ≤ 900000) (hJ : JM b v) : Sf (d_Mo_start w v) (fun q => JM b q ∧ ZM v q) := by
  unfold d_Mo_start
  refine sf_n (fun c5 => ?_) (fun _ => ?_)
  · rw [thr_0]
    refine sf_sb ?_
    refine sf_d (fun _ => ?_) (fun c => absurd rfl c)
    have e5 : ∀ (y z : Int32), pd_w (pd_w (pd_w (pd_w v 198 0 (0 : Int32)) 198 20 (1 : Int32)) 198 21 y) 198 22 z 198 5 = v 198 5 := fun y z => by rw [pd_w_nk (by decide), pd_w_nk (by decide), pd_w_nk (by decide), pd_w_nk (by decide)]
    obtain ⟨h1, h2, h3, h4, h5, h6⟩ := hJ
    obtain ⟨n, s, g1, g2, g3, g4, g5⟩ := h4 c5
    have T : ∀ y z, TX n s (pd_w (pd_w (pd_w (pd_w v 198 0 (0 : Int32)) 198 20 (1 : Int32)) 198 21 y) 198 22 z) := fun y z => ⟨by rw [pd_w_nk (by decide), pd_w_nk (by decide), pd_w_nk (by decide), pd_w_nk (by decide)]; exact g4, fun j hj => by rw [pd_w_ne (by decide), pd_w_ne (by decide), pd_w_ne (by decide), pd_w_ne (by decide)]; exact g5 j hj⟩
    have J1 : ∀ y, JM b (pd_w (pd_w (pd_w (pd_w v 198 0 (0 : Int32)) 198 20 (1 : Int32)) 198 21 y) 198 22 (0 : Int32)) := fun y => by
      refine ⟨?_, fun j hj => ?_, fun j hj => ?_, fun _ => ⟨n, s, g1, g2, g3, T y 0⟩, fun _ => ?_, ?_⟩
      · rw [pd_w_nk (by decide), pd_w_nk (by decide), pd_w_nk (by decide), pd_w_nk (by decide)]; exact h1
      · rw [pd_w_ne (by decide), pd_w_ne (by decide), pd_w_ne (by decide), pd_w_ne (by decide)]; exact h2 j hj
      · rw [pd_w_ne (by decide), pd_w_ne (by decide), pd_w_ne (by decide), pd_w_ne (by decide)]; exact h3 j hj
      · rw [e5]; exact c5
      · rw [pd_w_self, sI_0]; omega
    refine sf_bind (ag_t hw g1 g2 g3 (T _ _) (by rw [pd_w_self, sI_0]; omega) (by rw [pd_w_self, sI_0]; omega)) (fun q4 h4 => ?_)
    exact sf_some ⟨JM_S (J1 _) h4, ZM_t (ZM_k (ZM_k (ZM_k (ZM_k ZM_r (by decide)) (by decide)) (by decide)) (by decide)) (ZM_S h4)⟩
  · rw [thr_1]
    refine sf_sb ?_
    refine sf_d (fun c => absurd (show (1 : Int32) = 0 from c) (by decide)) (fun _ => sf_some ⟨JM_k hJ (by decide), ZM_k ZM_r (by decide)⟩)
theorem zru_m {y : Int32} (hw : 4294967296 < w) (hb : 0 ≤ b ∧ b + 500 ≤ 900000) (hJ : JM b v) : Sf (d_Mo_run w y v) (fun r => JM (b + 500) r.2 ∧ ZM v r.2) := by
  have up : ∀ u, JM b u → JM (b + 500) u := fun u h => ⟨h.1, h.2.1, h.2.2.1, h.2.2.2.1, h.2.2.2.2.1, h.2.2.2.2.2.1, by have := h.2.2.2.2.2.2; omega⟩
  have F0 : ∀ k : Int32, ZM v (pd_w v 198 0 k) := fun k => ZM_k ZM_r (by decide)
  have J0 : ∀ k : Int32, JM b (pd_w v 198 0 k) := fun k => JM_k hJ (by decide)
  unfold d_Mo_run
  refine sf_n (fun c20 => ?_) (fun c20 => ?_)
  · refine sf_d (fun c => absurd c c20) (fun _ => ?_)
    refine sf_d (fun cb => ?_) (fun _ => ?_)
    · have b2 := bey0 cb
      have z1 := sI_1
      have z5 : (500 : Int32).toInt = 500 := by decide
      rw [thr_0]
      refine sf_sb ?_
      refine sf_d (fun _ => ?_) (fun c => absurd rfl c)
      refine sf_n (fun _ => ?_) (fun _ => sf_some ⟨up _ (J0 0), F0 0⟩)
      obtain ⟨h1, h2, h3, h4, h5, h6⟩ := J0 0
      have e20 : pd_w v 198 0 (0 : Int32) 198 20 = v 198 20 := pd_w_nk (by decide)
      obtain ⟨n, s, g1, g2, g3, g4, g5⟩ := h4 (h5 (by rw [e20]; exact c20))
      have ef : (pd_w v 198 0 (0 : Int32) 198 22 + y).toInt = (pd_w v 198 0 (0 : Int32) 198 22).toInt + y.toInt := sI_add (by omega)
      have T : TX n s (pd_w (pd_w v 198 0 (0 : Int32)) 198 22 (pd_w v 198 0 (0 : Int32) 198 22 + y)) := ⟨by rw [pd_w_nk (by decide)]; exact g4, fun j hj => by rw [pd_w_ne (by decide)]; exact g5 j hj⟩
      have J1 : JM (b + 500) (pd_w (pd_w v 198 0 (0 : Int32)) 198 22 (pd_w v 198 0 (0 : Int32) 198 22 + y)) := by
        refine ⟨?_, fun j hj => ?_, fun j hj => ?_, fun _ => ⟨n, s, g1, g2, g3, T⟩, fun c2 => ?_, ?_⟩
        · rw [pd_w_nk (by decide)]; exact h1
        · rw [pd_w_ne (by decide)]; exact h2 j hj
        · rw [pd_w_ne (by decide)]; exact h3 j hj
        · rw [pd_w_nk (by decide)] at c2 ⊢; exact h5 c2
        · rw [pd_w_self, ef]; omega
      refine sf_bind (ag_t hw g1 g2 g3 T (by rw [pd_w_self, ef]; omega) (by rw [pd_w_self, ef]; omega)) (fun q4 h4 => ?_)
      exact sf_some ⟨JM_S J1 h4, ZM_t (ZM_k (F0 0) (by decide)) (ZM_S h4)⟩
    · rw [thr_2]
      refine sf_sb ?_
      exact sf_d (fun c => absurd (show (1 : Int32) = 0 from c) (by decide)) (fun _ => sf_some ⟨up _ (J0 2), F0 2⟩)
  · rw [show decide (v 198 20 = 0) = true from decide_eq_true c20]
    refine sf_tt ?_
    rw [thr_1]
    refine sf_sb ?_
    exact sf_d (fun c => absurd (show (1 : Int32) = 0 from c) (by decide)) (fun _ => sf_some ⟨up _ (J0 1), F0 1⟩)
theorem zan_m {y : Int32} {b : Int} (hw : 4294967296 < w) (hJ : JM b v) : Sf (d_Mo_alone w y v) (fun r => JM b r.2 ∧ ZM v r.2) := by
  have F0 : ∀ k : Int32, ZM v (pd_w v 198 0 k) := fun k => ZM_k ZM_r (by decide)
  have J0 : ∀ k : Int32, JM b (pd_w v 198 0 k) := fun k => JM_k hJ (by decide)
  unfold d_Mo_alone
  refine sf_n (fun c5 => ?_) (fun c5 => ?_)
  · refine sf_d (fun c => absurd c c5) (fun _ => ?_)
    refine sf_d (fun cb => ?_) (fun _ => ?_)
    · have b2 := bey0 cb
      have z1 := sI_1
      have z5 : (4000 : Int32).toInt = 4000 := by decide
      rw [thr_0]
      refine sf_sb ?_
      refine sf_d (fun _ => ?_) (fun c => absurd rfl c)
      have e5 : pd_w v 198 0 (0 : Int32) 198 5 = v 198 5 := pd_w_nk (by decide)
      obtain ⟨n, s, g1, g2, g3, g4⟩ := (J0 0).2.2.2.1 (by rw [e5]; exact c5)
      refine sf_bind (bg_t (a0 := 8) hw (Or.inr rfl)) (fun q8 h8 => ?_)
      have B8 := MB_A h8.1
      refine sf_mono (a57 hw g1 g2 g3 (by omega) w 0 q8 (TX_B g4 B8) (fun j hj => by omega) (fun j a b => h8.2 j a (by omega)) (by omega) (by omega)) (fun r hr => ⟨JM_B (J0 0) (MB_t B8 hr), ZM_t (F0 0) (ZM_B (MB_t B8 hr))⟩)
    · rw [thr_2]
      refine sf_sb ?_
      exact sf_d (fun c => absurd (show (1 : Int32) = 0 from c) (by decide)) (fun _ => sf_some ⟨J0 2, F0 2⟩)
  · rw [show decide (v 198 5 = 0) = true from decide_eq_true c5]
    refine sf_tt ?_
    rw [thr_1]
    refine sf_sb ?_
    exact sf_d (fun c => absurd (show (1 : Int32) = 0 from c) (by decide)) (fun _ => sf_some ⟨J0 1, F0 1⟩)
theorem zq_input {c : Int} (hJ : JM c v) : Sf (d_Mo_input a1 a2 v) (fun q => JM c q ∧ ZM v q) := by
  have J0 : ∀ k : Int32, JM c (pd_w v 198 0 k) ∧ ZM v (pd_w v 198 0 k) := fun k => ⟨JM_k hJ (by decide), ZM_k ZM_r (by decide)⟩
  unfold d_Mo_input
  rcases bey01 (a := a1) (l := 0) (h := 15) with h2 | h2
  · have i : pm_in a1 16 = true := by
      have := bey0 h2
      have e0 := sI_0
      have e7 : (15 : Int32).toInt = 15 := by decide
      exact pin (by omega)
    rw [h2]
    simp only [z00, z10, decide_true, decide_false, Bool.not_true, Bool.not_false, cond_true, cond_false, thr_0, thr_1, thr_2, thr_3, Option.bind_some]
    refine sf_d (fun _ => sf_c i (sf_some ⟨JM_e (J0 0).1 (fun a ha => pd_wa (by omega)) (fun k _ => pd_w_ne (by decide)), ZM_w (J0 0).2 (by decide)⟩)) (fun _ => sf_some (J0 2))
  · rw [h2]
    simp only [z00, z10, decide_true, decide_false, Bool.not_true, Bool.not_false, cond_true, cond_false, thr_0, thr_1, thr_2, thr_3, Option.bind_some]
    exact sf_some (J0 1)
theorem zq_lanes {c : Int} (hJ : JM c v) : Sf (d_Mo_lanes a1 v) (fun q => JM c q ∧ ZM v q) := by
  have J0 : ∀ k : Int32, JM c (pd_w v 198 0 k) ∧ ZM v (pd_w v 198 0 k) := fun k => ⟨JM_k hJ (by decide), ZM_k ZM_r (by decide)⟩
  unfold d_Mo_lanes
  rcases bey01 (a := a1) (l := 1) (h := 8) with h2 | h2
  · rw [h2]
    simp only [z00, z10, decide_true, decide_false, Bool.not_true, Bool.not_false, cond_true, cond_false, thr_0, thr_1, thr_2, thr_3, Option.bind_some]
    exact sf_d (fun _ => sf_some ⟨JM_k (J0 0).1 (by decide), ZM_k (J0 0).2 (by decide)⟩) (fun _ => sf_some (J0 2))
  · rw [h2]
    simp only [z00, z10, decide_true, decide_false, Bool.not_true, Bool.not_false, cond_true, cond_false, thr_0, thr_1, thr_2, thr_3, Option.bind_some]
    exact sf_some (J0 1)
end ZOM
