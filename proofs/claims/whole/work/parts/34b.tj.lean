/-! type, in both, at any length -/
def J (b : Int) (v : pd_V) : Prop := KO v ∧ JM b v ∧ v 1 1 = v 198 2
def okJ (b : Int) (r : (pd_V × (Nat → Int64) × Nat) ⊕ Int32) : Prop := ∃ q, r = .inl q ∧ J b q.1 ∧ q.2.2 ≤ 1
section TJ
variable {w : Nat} {v u q : pd_V} {b : Int} {x : Int64}
theorem ty_3j : ∀ (m f len : Nat) (v : pd_V), m < f → v 1 1 = Int32.ofNat len → len + m ≤ 160 → ∃ v', d_Re_append_19 w f x (Int32.ofNat m - 1) v = some (1, v') ∧ v' 1 1 = Int32.ofNat (len + m) ∧ (∀ a, 3 ≤ a → v' a = v a) ∧ (∀ k, k ≠ 1 → v' 1 k = v 1 k) ∧ v' 0 = v 0 := by
  intro m
  induction m with
  | zero =>
    intro f len v hf hv hl
    obtain ⟨f, rfl⟩ : ∃ g, f = g + 1 := ⟨f - 1, by omega⟩
    refine ⟨v, ?_, hv, fun a _ => rfl, fun _ _ => rfl, rfl⟩
    rw [d_Re_append_19, show decide (Int32.ofNat 0 - 1 < (0 : Int32)) = true by decide]
    rfl
  | succ m ih =>
    intro f len v hf hv hl
    obtain ⟨f, rfl⟩ : ∃ g, f = g + 1 := ⟨f - 1, by omega⟩
    obtain ⟨v', h1, h2, h3, h4, h5⟩ := ih f (len + 1) (pd_w (pd_w v 2 len (ch x m)) 1 1 (Int32.ofNat (len + 1))) (by omega) pd_w_self (by omega)
    refine ⟨v', ?_, by rw [h2]; congr 1; omega, fun a ha => ?_, fun k hk => ?_, ?_⟩
    · rw [d_Re_append_19, dec_ofNat, hv, decide_eq_false (Int32.ofNat_not_neg (small (by omega))), show (160 : Int32) = Int32.ofNat 160 from rfl, le_nat (by omega) (by omega), decide_eq_false (show ¬ 160 ≤ len by omega), in_nat (by omega) (by omega), cl_nat (by omega), dm1, ← inc_ofNat]
      exact h1
    · rw [h3 a ha, pd_wa (show a ≠ 1 by omega), pd_wa (show a ≠ 2 by omega)]
    · rw [h4 k hk, pd_w_nk hk, pd_w_ne (by decide)]
    · rw [h5, pd_wa (by decide), pd_wa (by decide)]
theorem ty_4j : ∀ (m f len : Nat) (v : pd_V), m < f → v 198 2 = Int32.ofNat len → len + m ≤ 160 → ∃ v', d_Mo_type_89 w f x (Int32.ofNat m - 1) v = some (Int32.ofNat (len + m), v') ∧ v' 198 2 = Int32.ofNat (len + m) ∧ (∀ a, a ≠ 198 → a ≠ 199 → v' a = v a) ∧ (∀ k, k ≠ 2 → v' 198 k = v 198 k) := by
  intro m
  induction m with
  | zero =>
    intro f len v hf hv hl
    obtain ⟨f, rfl⟩ : ∃ g, f = g + 1 := ⟨f - 1, by omega⟩
    refine ⟨v, ?_, hv, fun _ _ _ => rfl, fun _ _ => rfl⟩
    rw [d_Mo_type_89, show decide (Int32.ofNat 0 - 1 < (0 : Int32)) = true by decide, hv]
    rfl
  | succ m ih =>
    intro f len v hf hv hl
    obtain ⟨f, rfl⟩ : ∃ g, f = g + 1 := ⟨f - 1, by omega⟩
    obtain ⟨v', h1, h2, h3, h4⟩ := ih f (len + 1) (pd_w (pd_w v 199 len (((x >>> (((8 : Int32) * Int32.ofNat m).toInt64 &&& 63)) &&& (255 : Int64)).toInt32)) 198 2 (Int32.ofNat (len + 1))) (by omega) pd_w_self (by omega)
    refine ⟨v', ?_, by rw [h2]; congr 1; omega, fun a ha hb => ?_, fun k hk => ?_⟩
    · rw [d_Mo_type_89, dec_ofNat, hv, decide_eq_false (Int32.ofNat_not_neg (small (by omega))), in_nat (by omega) (by omega), cl_nat (by omega), dm1, ← inc_ofNat, show len + (m + 1) = len + 1 + m by omega]
      exact h1
    · rw [h3 a ha hb, pd_wa ha, pd_wa hb]
    · rw [h4 k hk, pd_w_nk hk, pd_w_ne (by decide)]
theorem KO_l {len : Nat} (h : KO v) (hl : len ≤ 160) (e1 : q 1 1 = Int32.ofNat len) (e2 : q 1 5 = v 1 5) (e3 : q 3 = v 3) (e4 : q 88 = v 88) : KO q := by
  unfold KO at *
  rw [e1, e2, e3, e4, Int32.toInt_ofNat_of_lt (show len < 2 ^ 31 by omega)]
  exact ⟨by omega, h.2⟩
theorem JM_d {d : Nat} (h : JM b v) (hd : d ≤ 160) (e0 : q 198 2 = Int32.ofNat d) (e : ∀ a, (a = 200 ∨ a = 201 ∨ a = 202) → q a = v a) (f : ∀ k, (k = 4 ∨ k = 5 ∨ k = 20 ∨ k = 22) → q 198 k = v 198 k) : JM b q := by
  obtain ⟨h1, h2, h3, h4, h5, h6⟩ := h
  refine ⟨⟨d, hd, e0⟩, fun j hj => by rw [e 201 (by omega)]; exact h2 j hj, fun j hj => by rw [e 202 (by omega)]; exact h3 j hj, fun c => ?_, ?_, ?_⟩
  · rw [f 5 (by omega)] at c
    obtain ⟨n, s, g1, g2, g3, g4, g5⟩ := h4 c
    exact ⟨n, s, g1, g2, g3, by rw [f 4 (by omega)]; exact g4, fun j hj => by rw [e 200 (by omega)]; exact g5 j hj⟩
  · rw [f 20 (by omega), f 5 (by omega)]; exact h5
  · rw [f 22 (by omega)]; exact h6
theorem J_0 {k : Int32} (h : J b v) : J b (pd_w v 198 0 k) := by
  refine ⟨?_, JM_k h.2.1 (by decide), ?_⟩
  · have := h.1
    unfold KO at *
    rw [pd_wa (show 1 ≠ 198 by decide), pd_wa (show 3 ≠ 198 by decide), pd_wa (show 88 ≠ 198 by decide)]
    exact this
  · rw [pd_w_ne (by decide), pd_w_nk (by decide)]; exact h.2.2
/-- either both throw the same, or both answer the same -/
theorem tj_t {n : Int32} {g : Nat → Int64} (hw : 4294967296 < w) (hJ : J b v) : ∃ q7 q11, d_La_type w x n v g = some q7 ∧ d_Mo_type w x n q7.2.1 = some q11 ∧ d_Mo_thrown q11.2 = q7.1 ∧ (q7.1 = 0 → lg_cmp (q7.2.2.1 0) (q11.1.toInt64) = 0) ∧ J b q11.2 ∧ q7.2.2.2 ≤ 1 := by
  have thrown : ∀ k : Int32, k ≠ 0 → d_La_type w x n v g = some (k, v, g, 1) → d_Mo_type w x n v = some (0, pd_w v 198 0 k) → ∃ q7 q11, d_La_type w x n v g = some q7 ∧ d_Mo_type w x n q7.2.1 = some q11 ∧ d_Mo_thrown q11.2 = q7.1 ∧ (q7.1 = 0 → lg_cmp (q7.2.2.1 0) (q11.1.toInt64) = 0) ∧ J b q11.2 ∧ q7.2.2.2 ≤ 1 :=
    fun k hk h1 h2 => ⟨_, _, h1, h2, show pd_w v 198 0 k 198 0 = k from pd_w_self, fun z => absurd z hk, J_0 hJ, Nat.le_refl _⟩
  obtain ⟨w', rfl⟩ : ∃ g, w = g + 1 := ⟨w - 1, by omega⟩
  by_cases h0 : n < 1
  · refine thrown 1 (by decide) (by unfold d_La_type d_De_type; rw [decide_eq_true h0]; rfl) ?_
    unfold d_Mo_type
    rw [bey_lo h0]
    exact ty_b
  by_cases h1 : n ≤ 8
  rotate_left
  · have h2 : (8 : Int32) < n := by
      rw [Int32.lt_iff_toInt_lt]
      have h9 : ¬ n.toInt ≤ (8 : Int32).toInt := fun q => h1 (Int32.le_iff_toInt_le.mpr q)
      omega
    refine thrown 1 (by decide) (by unfold d_La_type d_De_type; rw [decide_eq_false h0, decide_eq_true h2]; rfl) ?_
    unfold d_Mo_type
    rw [bey_hi h0 h1]
    exact ty_b
  have h2 : ¬ (8 : Int32) < n := by rw [Int32.lt_iff_toInt_lt]; have := Int32.le_iff_toInt_le.mp h1; omega
  obtain ⟨m, hm, rfl⟩ : ∃ m : Nat, m ≤ 8 ∧ n = Int32.ofNat m := by
    obtain ⟨N, g1, g2⟩ := int_eq_ofNat_of_bounds (C := 8) (by decide) (show (0 : Int32) ≤ n by
      rw [Int32.le_iff_toInt_le]
      have h9 : ¬ n.toInt < (1 : Int32).toInt := fun q => h0 (Int32.lt_iff_toInt_lt.mpr q)
      have e1 : (1 : Int32).toInt = 1 := by decide
      have e0 : (0 : Int32).toInt = 0 := by decide
      omega) h1
    exact ⟨N, g1, g2⟩
  obtain ⟨hK, hM, hE⟩ := id hJ
  obtain ⟨len, hlen, m2⟩ := hM.1
  have f11 : v 1 1 = Int32.ofNat len := hE.trans m2
  have t1 := ty_1 (w := w' + 1) (x := x) (v := v) m 0 (w' + 1) (by omega) (by omega)
  rw [Nat.zero_add] at t1
  have hb : ∀ u : pd_V, d_Mo_type (w' + 1) x (Int32.ofNat m) u = bif allg x 0 m then ty_f (w' + 1) x (Int32.ofNat m) u else some (0, pd_w u 198 0 1) := by
    intro u
    have t2 := ty_2 (w := w' + 1) (x := x) (v := u) m 0 (w' + 1) (by omega) (by omega)
    rw [Nat.zero_add] at t2
    unfold d_Mo_type
    rw [bey_in h0 h1]
    exact t2
  cases hg : allg x 0 m with
  | false =>
    rw [hg] at t1
    refine thrown 1 (by decide) ?_ (by rw [hb, hg]; rfl)
    unfold d_La_type d_De_type d_De_isTypable
    rw [decide_eq_false h0, decide_eq_false h2, show (0 : Int32) = Int32.ofNat 0 from rfl, t1]
    rfl
  | true =>
    rw [hg] at t1
    have e160 : (160 : Int32) - v 1 1 = Int32.ofNat (160 - len) := by
      rw [f11, Int32.ofNat_sub _ _ hlen]
      rfl
    have sum : v 198 2 + Int32.ofNat m = Int32.ofNat (len + m) := by rw [m2, Int32.ofNat_add]
    by_cases fit : len + m ≤ 160
    · obtain ⟨v', a1, a2, a3, a4, a5⟩ := ty_3j (w := w' + 1) (x := x) m (w' + 1) len v (by omega) f11 fit
      have c1 : d_La_type (w' + 1) x (Int32.ofNat m) v g = some (0, v', vp_updL g 0 (Int32.ofNat (len + m)).toInt64, 0) := by
        have ha : d_Re_append (w' + 1) x (Int32.ofNat m) v = some (1, v') := by
          unfold d_Re_append
          rw [e160, le_nat (by omega) (by omega), decide_eq_true (show m ≤ 160 - len by omega)]
          exact a1
        unfold d_La_type d_De_type d_De_isTypable
        rw [decide_eq_false h0, decide_eq_false h2]
        show ((((d_De_isTypable_2 (w' + 1) (w' + 1) x (Int32.ofNat m) (Int32.ofNat 0) v).bind _)).bind _) = _
        rw [t1]
        show ((((d_Re_append (w' + 1) x (Int32.ofNat m) v).bind _)).bind _) = _
        rw [ha]
        show some ((0 : Int32), v', vp_updL g 0 (v' 1 1).toInt64, 0) = _
        rw [a2]
      have e198 : v' 198 = v 198 := a3 198 (by decide)
      obtain ⟨v'', d1, d2, d3, d4⟩ := ty_4j (w := w' + 1) (x := x) m (w' + 1) len (pd_w v' 198 0 0) (by omega) (by rw [pd_w_nk (show (2 : Nat) ≠ 0 by decide), e198, m2]) fit
      have c2 : d_Mo_type (w' + 1) x (Int32.ofNat m) v' = some (Int32.ofNat (len + m), v'') := by
        rw [hb, hg]
        show ty_f (w' + 1) x (Int32.ofNat m) v' = _
        unfold ty_f
        rw [e198, sum, show (160 : Int32) = Int32.ofNat 160 from rfl, le_nat (by omega) (by omega), decide_eq_true fit, thr_0]
        exact d1
      have lo : ∀ a, 3 ≤ a → a ≠ 198 → a ≠ 199 → v'' a = v a := fun a h1 h2 h3 => by rw [d3 a h2 h3, pd_wa h2, a3 a h1]
      have l1 : ∀ k, v'' 1 k = v' 1 k := fun k => by rw [d3 1 (by decide) (by decide), pd_wa (by decide)]
      have mk : ∀ k, k ≠ 0 → k ≠ 2 → v'' 198 k = v 198 k := fun k h1 h2 => by rw [d4 k h2, pd_w_nk h1, e198]
      have jj : J b v'' := ⟨KO_l hK fit (by rw [l1, a2]) (by rw [l1, a4 5 (by decide)]) (lo 3 (by decide) (by decide) (by decide)) (lo 88 (by decide) (by decide) (by decide)), JM_d hM fit d2 (fun a ha => lo a (by omega) (by omega) (by omega)) (fun k hk => mk k (by omega) (by omega)), by rw [l1, a2, d2]⟩
      refine ⟨_, _, c1, c2, ?_, fun _ => ?_, jj, Nat.zero_le _⟩
      · show v'' 198 0 = 0
        rw [d4 0 (by decide), pd_w_self]
      · show lg_cmp ((Int32.ofNat (len + m)).toInt64) ((Int32.ofNat (len + m)).toInt64) = 0
        unfold lg_cmp
        simp
    · refine thrown 2 (by decide) ?_ ?_
      · have ha : d_Re_append (w' + 1) x (Int32.ofNat m) v = some (0, v) := by
          unfold d_Re_append
          rw [e160, le_nat (by omega) (by omega), decide_eq_false (show ¬ m ≤ 160 - len by omega)]
          rfl
        unfold d_La_type d_De_type d_De_isTypable
        rw [decide_eq_false h0, decide_eq_false h2]
        show ((((d_De_isTypable_2 (w' + 1) (w' + 1) x (Int32.ofNat m) (Int32.ofNat 0) v).bind _)).bind _) = _
        rw [t1]
        show ((((d_Re_append (w' + 1) x (Int32.ofNat m) v).bind _)).bind _) = _
        rw [ha]
        rfl
      · rw [hb, hg]
        show ty_f (w' + 1) x (Int32.ofNat m) v = _
        unfold ty_f
        rw [sum, show (160 : Int32) = Int32.ofNat 160 from rfl, le_nat (by omega) (by omega), decide_eq_false fit, thr_2]
        rfl
end TJ
