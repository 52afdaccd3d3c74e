/-! text, place and what varies are the same in both -/
def K5 (v : pd_V) : Prop := (∀ n, n ≤ 160 → v 198 2 = Int32.ofNat n → ∀ j, j < n → v 2 j = v 199 j) ∧ v 0 3 = v 198 7 ∧ kerOf (v 0 1) ≠ kerOf (v 1 3) ∧ v 0 2 = v 198 5 ∧ (v 198 5 ≠ 0 → ZV (v (kerOf (v 0 1)) 5) v)
section ZKF
variable {w : Nat} {s : Nat → Int32} {v u q : pd_V} {b : Int} {x : Int64}
theorem K5_e (h : K5 v) (e : ∀ c, (c = 2 ∨ c = 3 ∨ c = 88 ∨ c = 199 ∨ c = 201) → q c = v c) (e0 : ∀ k, (k = 1 ∨ k = 2 ∨ k = 3) → q 0 k = v 0 k) (e1 : q 1 3 = v 1 3) (em : ∀ k, (k = 2 ∨ k = 5 ∨ k = 7) → q 198 k = v 198 k) : K5 q := by
  obtain ⟨h1, h2, h3, h4, h5⟩ := h
  refine ⟨fun n hn hq j hj => ?_, ?_, ?_, ?_, fun c => ?_⟩
  · rw [em 2 (by omega)] at hq
    rw [e 2 (by omega), e 199 (by omega)]
    exact h1 n hn hq j hj
  · rw [e0 3 (by omega), em 7 (by omega)]; exact h2
  · rw [e0 1 (by omega), e1]; exact h3
  · rw [e0 2 (by omega), em 5 (by omega)]; exact h4
  · rw [em 5 (by omega)] at c
    have pk : kerOf (v 0 1) = 3 ∨ kerOf (v 0 1) = 88 := ker_of (v 0 1)
    rw [e0 1 (by omega), e (kerOf (v 0 1)) (by omega)]
    intro i hi
    rw [e 201 (by omega)]
    exact h5 c i hi
theorem K5_0 {k : Int32} (h : K5 v) : K5 (pd_w v 198 0 k) := K5_e h (fun c hc => pd_wa (by omega)) (fun k _ => pd_w_ne (by decide)) (pd_w_ne (by decide)) (fun k hk => pd_w_nk (by omega))
theorem K5_G (h : K5 v) (e : ZG v q) : K5 q := K5_e h (fun c hc => by
  rcases hc with hc | hc | hc | hc | hc
  · exact e.1 c (by omega) (by omega)
  · exact e.1 c (by omega) (by omega)
  · exact e.1 c (by omega) (by omega)
  · exact e.2.1 c (by omega)
  · exact e.2.1 c (by omega)) (fun k hk => e.2.2 k (by omega)) (by rw [e.1 1 (by omega) (by omega)]) (fun k _ => by rw [e.2.1 198 (by omega)])
theorem K5_M (h : K5 v) (e : ZM v q) : K5 q := K5_e h (fun c hc => e.1 c (by omega)) (fun k _ => by rw [e.1 0 (by omega)]) (by rw [e.1 1 (by omega)]) (fun k hk => e.2 k (by omega))
theorem K5_cl (h : K5 v) : K5 (pd_w (pd_w (pd_w v 1 1 (0 : Int32)) 198 0 (0 : Int32)) 198 2 (0 : Int32)) := by
  obtain ⟨h1, h2, h3, h4, h5⟩ := h
  have e : ∀ c, c ≠ 1 → c ≠ 198 → pd_w (pd_w (pd_w v 1 1 (0 : Int32)) 198 0 (0 : Int32)) 198 2 (0 : Int32) c = v c := fun c a b => by rw [pd_wa b, pd_wa b, pd_wa a]
  have em : ∀ k, k ≠ 0 → k ≠ 2 → pd_w (pd_w (pd_w v 1 1 (0 : Int32)) 198 0 (0 : Int32)) 198 2 (0 : Int32) 198 k = v 198 k := fun k a b => by rw [pd_w_nk b, pd_w_nk a, pd_w_ne (by decide)]
  refine ⟨fun n hn hq j hj => ?_, ?_, ?_, ?_, fun c => ?_⟩
  · rw [pd_w_self] at hq
    have h6 : decide (Int32.ofNat 0 = Int32.ofNat n) = decide (0 = n) := eq_nat (by omega) (by omega)
    rw [decide_eq_true (show Int32.ofNat 0 = Int32.ofNat n from hq)] at h6
    have h7 := of_decide_eq_true h6.symm
    omega
  · rw [e 0 (by decide) (by decide), em 7 (by decide) (by decide)]; exact h2
  · rw [e 0 (by decide) (by decide), pd_w_ne (by decide), pd_w_ne (by decide), pd_w_nk (by decide)]; exact h3
  · rw [e 0 (by decide) (by decide), em 5 (by decide) (by decide)]; exact h4
  · rw [em 5 (by decide) (by decide)] at c
    have pk : kerOf (v 0 1) = 3 ∨ kerOf (v 0 1) = 88 := ker_of (v 0 1)
    rw [e 0 (by decide) (by decide), e (kerOf (v 0 1)) (by omega) (by omega)]
    intro i hi
    rw [e 201 (by decide) (by decide)]
    exact h5 c i hi
/-- the same bytes are put behind both -/
theorem zty : ∀ (m f len : Nat) (v u : pd_V), m < f → v 1 1 = Int32.ofNat len → u 198 2 = Int32.ofNat len → len + m ≤ 160 → m ≤ 8 → (∀ j, j < len → v 2 j = u 199 j) → ∃ v' u', d_Re_append_19 w f x (Int32.ofNat m - 1) v = some (1, v') ∧ d_Mo_type_89 w f x (Int32.ofNat m - 1) u = some (Int32.ofNat (len + m), u') ∧ ∀ j, j < len + m → v' 2 j = u' 199 j := by
  intro m
  induction m with
  | zero =>
    intro f len v u hf hv hu hl hm hj
    obtain ⟨f, rfl⟩ : ∃ g, f = g + 1 := ⟨f - 1, by omega⟩
    refine ⟨v, u, ?_, ?_, hj⟩
    · rw [d_Re_append_19, show decide (Int32.ofNat 0 - 1 < (0 : Int32)) = true by decide]
      rfl
    · rw [d_Mo_type_89, show decide (Int32.ofNat 0 - 1 < (0 : Int32)) = true by decide, hu]
      rfl
  | succ m ih =>
    intro f len v u hf hv hu hl hm hj
    obtain ⟨f, rfl⟩ : ∃ g, f = g + 1 := ⟨f - 1, by omega⟩
    obtain ⟨v', u', h1, h2, h3⟩ := ih f (len + 1) (pd_w (pd_w v 2 len (ch x m)) 1 1 (Int32.ofNat (len + 1))) (pd_w (pd_w u 199 len (((x >>> (((8 : Int32) * Int32.ofNat m).toInt64 &&& 63)) &&& (255 : Int64)).toInt32)) 198 2 (Int32.ofNat (len + 1))) (by omega) pd_w_self pd_w_self (by omega) (by omega) (fun j hlt => by
      rw [pd_w_ne (show (2 : Nat) ≠ 1 by decide), pd_w_ne (show (199 : Nat) ≠ 198 by decide)]
      by_cases e : j = len
      · rw [e, pd_w_self, pd_w_self, ch_eq (by omega)]
      · rw [pd_w_nk e, pd_w_nk e]
        exact hj j (by omega))
    refine ⟨v', u', ?_, ?_, fun j hlt => h3 j (by omega)⟩
    · rw [d_Re_append_19, dec_ofNat, hv, decide_eq_false (Int32.ofNat_not_neg (small (by omega))), show (160 : Int32) = Int32.ofNat 160 from rfl, le_nat (by omega) (by omega), decide_eq_false (show ¬ 160 ≤ len by omega), in_nat (by omega) (by omega), cl_nat (by omega), dm1, ← inc_ofNat]
      exact h1
    · rw [d_Mo_type_89, dec_ofNat, hu, decide_eq_false (Int32.ofNat_not_neg (small (by omega))), in_nat (by omega) (by omega), cl_nat (by omega), dm1, ← inc_ofNat, show len + (m + 1) = len + 1 + m by omega]
      exact h2
theorem ztj_t {n : Int32} {g : Nat → Int64} (hw : 4294967296 < w) (hJ : J b v) (hK5 : K5 v) : ∃ q7 q11, d_La_type w x n v g = some q7 ∧ d_Mo_type w x n q7.2.1 = some q11 ∧ d_Mo_thrown q11.2 = q7.1 ∧ (q7.1 = 0 → lg_cmp (q7.2.2.1 0) (q11.1.toInt64) = 0) ∧ (J b q11.2 ∧ K5 q11.2) ∧ q7.2.2.2 ≤ 1 := by
  have thrown : ∀ k : Int32, k ≠ 0 → d_La_type w x n v g = some (k, v, g, 1) → d_Mo_type w x n v = some (0, pd_w v 198 0 k) → ∃ q7 q11, d_La_type w x n v g = some q7 ∧ d_Mo_type w x n q7.2.1 = some q11 ∧ d_Mo_thrown q11.2 = q7.1 ∧ (q7.1 = 0 → lg_cmp (q7.2.2.1 0) (q11.1.toInt64) = 0) ∧ (J b q11.2 ∧ K5 q11.2) ∧ q7.2.2.2 ≤ 1 :=
    fun k hk h1 h2 => ⟨_, _, h1, h2, show pd_w v 198 0 k 198 0 = k from pd_w_self, fun z => absurd z hk, ⟨J_0 hJ, K5_0 hK5⟩, Nat.le_refl _⟩
  obtain ⟨w', rfl⟩ : ∃ g, w = g + 1 := ⟨w - 1, by omega⟩
  by_cases h0 : n < 1
  · refine thrown 1 (by decide) (by unfold d_La_type d_De_type; rw [decide_eq_true h0]; rfl) ?_
    unfold d_Mo_type
    rw [bey_lo h0]
    exact ty_b
  by_cases h1 : n ≤ 8
  rotate_left
  · have h2 : (8 : Int32) < n := by
      rw [Int32.lt_iff_toInt_lt]
      have h9 : ¬ n.toInt ≤ (8 : Int32).toInt := fun q => h1 (Int32.le_iff_toInt_le.mpr q)
      omega
    refine thrown 1 (by decide) (by unfold d_La_type d_De_type; rw [decide_eq_false h0, decide_eq_true h2]; rfl) ?_
    unfold d_Mo_type
    rw [bey_hi h0 h1]
    exact ty_b
  have h2 : ¬ (8 : Int32) < n := by rw [Int32.lt_iff_toInt_lt]; have := Int32.le_iff_toInt_le.mp h1; omega
  obtain ⟨m, hm, rfl⟩ : ∃ m : Nat, m ≤ 8 ∧ n = Int32.ofNat m := by
    obtain ⟨N, g1, g2⟩ := int_eq_ofNat_of_bounds (C := 8) (by decide) (show (0 : Int32) ≤ n by
      rw [Int32.le_iff_toInt_le]
      have h9 : ¬ n.toInt < (1 : Int32).toInt := fun q => h0 (Int32.lt_iff_toInt_lt.mpr q)
      have e1 : (1 : Int32).toInt = 1 := by decide
      have e0 : (0 : Int32).toInt = 0 := by decide
      omega) h1
    exact ⟨N, g1, g2⟩
  obtain ⟨hK, hM, hE⟩ := id hJ
  obtain ⟨len, hlen, m2⟩ := hM.1
  have f11 : v 1 1 = Int32.ofNat len := hE.trans m2
  have t1 := ty_1 (w := w' + 1) (x := x) (v := v) m 0 (w' + 1) (by omega) (by omega)
  rw [Nat.zero_add] at t1
  have hb : ∀ u : pd_V, d_Mo_type (w' + 1) x (Int32.ofNat m) u = bif allg x 0 m then ty_f (w' + 1) x (Int32.ofNat m) u else some (0, pd_w u 198 0 1) := by
    intro u
    have t2 := ty_2 (w := w' + 1) (x := x) (v := u) m 0 (w' + 1) (by omega) (by omega)
    rw [Nat.zero_add] at t2
    unfold d_Mo_type
    rw [bey_in h0 h1]
    exact t2
  cases hg : allg x 0 m with
  | false =>
    rw [hg] at t1
    refine thrown 1 (by decide) ?_ (by rw [hb, hg]; rfl)
    unfold d_La_type d_De_type d_De_isTypable
    rw [decide_eq_false h0, decide_eq_false h2, show (0 : Int32) = Int32.ofNat 0 from rfl, t1]
    rfl
  | true =>
    rw [hg] at t1
    have e160 : (160 : Int32) - v 1 1 = Int32.ofNat (160 - len) := by
      rw [f11, Int32.ofNat_sub _ _ hlen]
      rfl
    have sum : v 198 2 + Int32.ofNat m = Int32.ofNat (len + m) := by rw [m2, Int32.ofNat_add]
    by_cases fit : len + m ≤ 160
    · obtain ⟨v', a1, a2, a3, a4, a5⟩ := ty_3j (w := w' + 1) (x := x) m (w' + 1) len v (by omega) f11 fit
      have c1 : d_La_type (w' + 1) x (Int32.ofNat m) v g = some (0, v', vp_updL g 0 (Int32.ofNat (len + m)).toInt64, 0) := by
        have ha : d_Re_append (w' + 1) x (Int32.ofNat m) v = some (1, v') := by
          unfold d_Re_append
          rw [e160, le_nat (by omega) (by omega), decide_eq_true (show m ≤ 160 - len by omega)]
          exact a1
        unfold d_La_type d_De_type d_De_isTypable
        rw [decide_eq_false h0, decide_eq_false h2]
        show ((((d_De_isTypable_2 (w' + 1) (w' + 1) x (Int32.ofNat m) (Int32.ofNat 0) v).bind _)).bind _) = _
        rw [t1]
        show ((((d_Re_append (w' + 1) x (Int32.ofNat m) v).bind _)).bind _) = _
        rw [ha]
        show some ((0 : Int32), v', vp_updL g 0 (v' 1 1).toInt64, 0) = _
        rw [a2]
      have e198 : v' 198 = v 198 := a3 198 (by decide)
      obtain ⟨v'', d1, d2, d3, d4⟩ := ty_4j (w := w' + 1) (x := x) m (w' + 1) len (pd_w v' 198 0 0) (by omega) (by rw [pd_w_nk (show (2 : Nat) ≠ 0 by decide), e198, m2]) fit
      have c2 : d_Mo_type (w' + 1) x (Int32.ofNat m) v' = some (Int32.ofNat (len + m), v'') := by
        rw [hb, hg]
        show ty_f (w' + 1) x (Int32.ofNat m) v' = _
        unfold ty_f
        rw [e198, sum, show (160 : Int32) = Int32.ofNat 160 from rfl, le_nat (by omega) (by omega), decide_eq_true fit, thr_0]
        exact d1
      have lo : ∀ a, 3 ≤ a → a ≠ 198 → a ≠ 199 → v'' a = v a := fun a h1 h2 h3 => by rw [d3 a h2 h3, pd_wa h2, a3 a h1]
      have l1 : ∀ k, v'' 1 k = v' 1 k := fun k => by rw [d3 1 (by decide) (by decide), pd_wa (by decide)]
      have mk : ∀ k, k ≠ 0 → k ≠ 2 → v'' 198 k = v 198 k := fun k h1 h2 => by rw [d4 k h2, pd_w_nk h1, e198]
      have jj : J b v'' := ⟨KO_l hK fit (by rw [l1, a2]) (by rw [l1, a4 5 (by decide)]) (lo 3 (by decide) (by decide) (by decide)) (lo 88 (by decide) (by decide) (by decide)), JM_d hM fit d2 (fun a ha => lo a (by omega) (by omega) (by omega)) (fun k hk => mk k (by omega) (by omega)), by rw [l1, a2, d2]⟩
      have kk : K5 v'' := by
        refine ⟨fun n hn h2 j hj => ?_, ?_, ?_, ?_, fun c => ?_⟩
        · have e2 : n = len + m := by
            have h3 : decide (Int32.ofNat n = Int32.ofNat (len + m)) = decide (n = len + m) := eq_nat (by omega) (by omega)
            rw [decide_eq_true (h2.symm.trans d2)] at h3
            exact of_decide_eq_true h3.symm
          subst e2
          obtain ⟨vx, ux, x1, x2, x3⟩ := zty (w := w' + 1) (x := x) m (w' + 1) len v (pd_w v' 198 0 0) (by omega) f11 (by rw [pd_w_nk (show (2 : Nat) ≠ 0 by decide), e198, m2]) fit hm (fun i hi => by rw [pd_w_ne (by decide), a3 199 (by decide)]; exact hK5.1 len hlen m2 i hi)
          have y1 : vx = v' := congrArg Prod.snd (Option.some.inj (x1.symm.trans a1))
          have y2 : ux = v'' := congrArg Prod.snd (Option.some.inj (x2.symm.trans d1))
          have x4 := x3 j hj
          rw [y1, y2] at x4
          rw [d3 2 (by decide) (by decide), pd_wa (by decide)]
          exact x4
        · rw [d3 0 (by decide) (by decide), pd_wa (by decide), a5, mk 7 (by decide) (by decide)]
          exact hK5.2.1
        · rw [d3 0 (by decide) (by decide), pd_wa (by decide), a5, l1, a4 3 (by decide)]
          exact hK5.2.2.1
        · rw [d3 0 (by decide) (by decide), pd_wa (by decide), a5, mk 5 (by decide) (by decide)]
          exact hK5.2.2.2.1
        · rw [mk 5 (by decide) (by decide)] at c
          have h := hK5.2.2.2.2 c
          rw [d3 0 (by decide) (by decide), pd_wa (by decide), a5]
          have pk : kerOf (v 0 1) = 3 ∨ kerOf (v 0 1) = 88 := ker_of (v 0 1)
          rw [lo (kerOf (v 0 1)) (by omega) (by omega) (by omega)]
          intro i hi
          rw [lo 201 (by decide) (by decide) (by decide)]
          exact h i hi
      refine ⟨_, _, c1, c2, ?_, fun _ => ?_, ⟨jj, kk⟩, Nat.zero_le _⟩
      · show v'' 198 0 = 0
        rw [d4 0 (by decide), pd_w_self]
      · show lg_cmp ((Int32.ofNat (len + m)).toInt64) ((Int32.ofNat (len + m)).toInt64) = 0
        unfold lg_cmp
        simp
    · refine thrown 2 (by decide) ?_ ?_
      · have ha : d_Re_append (w' + 1) x (Int32.ofNat m) v = some (0, v) := by
          unfold d_Re_append
          rw [e160, le_nat (by omega) (by omega), decide_eq_false (show ¬ m ≤ 160 - len by omega)]
          rfl
        unfold d_La_type d_De_type d_De_isTypable
        rw [decide_eq_false h0, decide_eq_false h2]
        show ((((d_De_isTypable_2 (w' + 1) (w' + 1) x (Int32.ofNat m) (Int32.ofNat 0) v).bind _)).bind _) = _
        rw [t1]
        show ((((d_Re_append (w' + 1) x (Int32.ofNat m) v).bind _)).bind _) = _
        rw [ha]
        rfl
      · rw [hb, hg]
        show ty_f (w' + 1) x (Int32.ofNat m) v = _
        unfold ty_f
        rw [sum, show (160 : Int32) = Int32.ofNat 160 from rfl, le_nat (by omega) (by omega), decide_eq_false fit, thr_2]
        rfl
/-- both compile -/
theorem zco_t (hw : 4294967296 < w) (hJ : J b v) (hK : K5 v) : Sf (d_De_compile w v) (fun r => J b r.2 ∧ Sf (d_Mo_compile w r.2) (fun t => (J b t.2 ∧ K5 t.2) ∧ r.1 = t.1)) := by
  obtain ⟨n, hn, h2⟩ := hJ.2.1.1
  have h0 : ∀ j, n ≤ j → (fun j => if j < n then v 2 j else 0) j = (0 : Int32) := fun j hj => if_neg (by omega)
  have hR : RD n (fun j => if j < n then v 2 j else 0) v := ⟨hJ.2.2.trans h2, fun j hj => (if_pos hj).symm⟩
  have pk : kerOf (v 0 1) = 3 ∨ kerOf (v 0 1) = 88 := ker_of (v 0 1)
  have pa : kerOf (v 1 3) = 3 ∨ kerOf (v 1 3) = 88 := ker_of (v 1 3)
  obtain ⟨k1, k2, k3, k4, k5⟩ := id hK
  generalize hs : (fun j => if j < n then v 2 j else (0 : Int32)) = s at h0 hR
  refine sf_mono (sf_sf (t_De_compile hw hJ.1) (zde_t hw hn h0 hR rfl)) (fun r hr => ?_)
  obtain ⟨hC, hZ⟩ := hr
  have J1 := J_C hJ hC
  refine ⟨J1, ?_⟩
  have far : ∀ c, 198 ≤ c → r.2 c = v c := fun c hc => hC.1 c (by omega)
  have hD : DR n s r.2 := ⟨by rw [far 198 (by omega)]; exact h2, fun j hj => by rw [far 199 (by omega), ← k1 n hn h2 j hj]; exact hR.2 j hj⟩
  have mo := cm_t (b := b) hw J1.2.1
  have notIn : ∀ c, (c = 3 ∨ c = 88) → c ≠ kerOf (v 1 3) → ¬ (kerOf (v 1 3) ≤ c ∧ c < kerOf (v 1 3) + 84) := fun c hc hne => by omega
  have old : ∀ (t : pd_V), ZDN (kerOf (v 1 3)) v r.2 → FM r.2 t → t 199 = r.2 199 → (∀ j, j < 8 → t 201 j = v 201 j) → t 198 5 = v 198 5 → r.2 0 3 = t 198 7 → K5 t := by
    intro t hd hF h199 h201 h5 h7
    obtain ⟨d1, d2, d3, d4⟩ := hd
    refine ⟨fun m hm hq j hj => ?_, ?_, ?_, ?_, fun c => ?_⟩
    · rw [hF.2, far 198 (by omega)] at hq
      rw [hF.1 2 (by omega), d1 2 (by decide) (by decide) (by decide) (by omega), h199, far 199 (by omega)]
      exact k1 m hm hq j hj
    · rw [hF.1 0 (by omega)]; exact h7
    · rw [hF.1 0 (by omega), hF.1 1 (by omega), d2 1 (by decide), d4]; exact k3
    · rw [hF.1 0 (by omega), d2 2 (by decide), h5]; exact k4
    · rw [h5] at c
      rw [hF.1 0 (by omega), d2 1 (by decide), hF.1 (kerOf (v 0 1)) (by omega), d1 (kerOf (v 0 1)) (by omega) (by omega) (by omega) (notIn _ pk k3)]
      intro i hi
      rw [h201 i hi]
      exact k5 c i hi
  rcases hZ with ⟨q0, hq, za, z3, zn⟩ | ⟨N, hN, hx, z3, ⟨zm, za, zy⟩ | ⟨zm, za, zn⟩⟩
  · refine sf_mono (sf_sf mo (zcm_no hw hn h0 hq hD)) (fun t ht => ?_)
    obtain ⟨hm, ⟨ta, t7⟩, tf, t5⟩ := ht
    refine ⟨⟨J_M J1 hm.2 hm.1, old t.2 zn hm.2 (tf 199 (by decide) (by decide) (by decide)) (fun j _ => by rw [tf 201 (by decide) (by decide) (by decide), far 201 (by omega)]) (by rw [t5, far 198 (by omega)]) (z3.trans t7.symm)⟩, za.trans ta.symm⟩
  · refine sf_mono (sf_sf mo (zcm_ok hw hn h0 hN hx hD J1.2.1.2.1)) (fun t ht => ?_)
    obtain ⟨hm, ⟨t7, tz⟩, t199⟩ := ht
    rcases tz with ⟨-, ta, tv, t5⟩ | ⟨tn, -⟩
    · refine ⟨⟨J_M J1 hm.2 hm.1, ?_⟩, za.trans ta.symm⟩
      obtain ⟨y1, y2, y3, y4, y5, y6, y7, -⟩ := zy
      have hF := hm.2
      refine ⟨fun m hm' hq j hj => ?_, ?_, ?_, ?_, fun c => ?_⟩
      · rw [hF.2, far 198 (by omega)] at hq
        rw [hF.1 2 (by omega), y1 2 (by decide) (by decide) (by decide) (by decide) (by decide) (by omega), t199, far 199 (by omega)]
        exact k1 m hm' hq j hj
      · rw [hF.1 0 (by omega), z3]; exact t7.symm
      · rw [hF.1 0 (by omega), hF.1 1 (by omega), y3, y4]; exact fun z => k3 z.symm
      · rw [hF.1 0 (by omega), y2, t5]
      · rw [hF.1 0 (by omega), y3, hF.1 (kerOf (v 1 3)) (by omega), y6]
        exact tv
    · exact absurd ((ZPO_lt (ZPO_L h0 hn hx 9 (0, -1) ZPO_m)).mpr zm) tn
  · refine sf_mono (sf_sf mo (zcm_ok hw hn h0 hN hx hD J1.2.1.2.1)) (fun t ht => ?_)
    obtain ⟨hm, ⟨t7, tz⟩, t199⟩ := ht
    rcases tz with ⟨tn, -⟩ | ⟨-, ta, tb, t5⟩
    · exact absurd ((ZPO_lt (ZPO_L h0 hn hx 9 (0, -1) ZPO_m)).mp tn) zm
    · exact ⟨⟨J_M J1 hm.2 hm.1, old t.2 zn hm.2 t199 (fun j hj => by rw [tb j hj, far 201 (by omega)]) (by rw [t5, far 198 (by omega)]) (z3.trans t7.symm)⟩, za.trans ta.symm⟩
end ZKF
