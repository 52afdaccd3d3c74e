/-! type on fresh objects -/
def ch (x : Int64) (k : Nat) : Int32 := d_De_byteOf x (Int32.ofNat k)
def gd (x : Int64) (k : Nat) : Bool := !(decide (ch x k < (33 : Int32))) && decide (ch x k ≤ (126 : Int32))
def allg (x : Int64) (k m : Nat) : Bool := match m with
  | 0 => true
  | m + 1 => gd x k && allg x (k + 1) m
theorem small {n : Nat} (h : n ≤ 1000) : n < 2 ^ 31 := by omega
theorem le_nat {a b : Nat} (ha : a ≤ 1000) (hb : b ≤ 1000) : decide (Int32.ofNat a ≤ Int32.ofNat b) = decide (a ≤ b) := by
  rw [decide_eq_decide]; exact Int32.ofNat_le_ofNat (small ha) (small hb)
theorem lt_nat {a b : Nat} (ha : a ≤ 1000) (hb : b ≤ 1000) : decide (Int32.ofNat a < Int32.ofNat b) = decide (a < b) := by
  rw [decide_eq_decide]; exact Int32.ofNat_lt_ofNat (small ha) (small hb)
theorem in_nat {a n : Nat} (ha : a < n) (hn : n ≤ 1000) : pm_in (Int32.ofNat a) n = true := by
  refine pd_in (Int32.ofNat_not_neg (small (by omega))) ?_
  rw [Int32.toInt_ofNat_small (small (by omega))]
  omega
theorem cl_nat {a : Nat} (ha : a ≤ 1000) : (Int32.ofNat a).toNatClampNeg = a := clamp_of rfl (small ha)
theorem dm1 (m : Nat) : Int32.ofNat m + (-1 : Int32) = Int32.ofNat m - 1 := (Int32.sub_eq_add_neg _ _).symm
theorem bits_eq (b : BitVec 64) (s : Nat) (hs : s + 8 ≤ 64) : ((b.sshiftRight s) &&& 255#64).setWidth 32 = ((b >>> s).setWidth 32) &&& 255#32 := by
  apply BitVec.eq_of_getLsbD_eq
  intro i hi
  have h1 : (255#64).getLsbD i = decide (i < 8) := by
    rw [BitVec.getLsbD_ofNat, show (255 : Nat) = 2 ^ 8 - 1 from rfl, Nat.testBit_two_pow_sub_one]
    simp; omega
  have h2 : (255#32).getLsbD i = decide (i < 8) := by
    rw [BitVec.getLsbD_ofNat, show (255 : Nat) = 2 ^ 8 - 1 from rfl, Nat.testBit_two_pow_sub_one]
    simp; omega
  rw [BitVec.getLsbD_setWidth, BitVec.getLsbD_and, BitVec.getLsbD_and, BitVec.getLsbD_setWidth, h1, h2, BitVec.getLsbD_sshiftRight, BitVec.getLsbD_ushiftRight]
  by_cases h : i < 8
  · rw [decide_eq_true h, if_pos (by omega), decide_eq_true hi, decide_eq_false (show ¬ 64 ≤ i by omega)]
    simp
  · rw [decide_eq_false h]
    simp
theorem ch_lit {x s : Int64} {k : Nat} (hs : (s.toBitVec.smod 64).toNat = k) (hu : ((s.toUInt64).toBitVec % 64).toNat = k) (hk : k + 8 ≤ 64) : ((x >>> s) &&& (255 : Int64)).toInt32 = (((x.toUInt64 >>> s.toUInt64).toInt64).toInt32) &&& (255 : Int32) := by
  apply Int32.toBitVec_inj.mp
  have e1 : ((x >>> s) &&& (255 : Int64)).toInt32.toBitVec = ((x.toBitVec.sshiftRight k) &&& 255#64).setWidth 32 := by
    rw [Int64.toBitVec_toInt32, Int64.toBitVec_and, Int64.toBitVec_shiftRight, BitVec.signExtend_eq_setWidth_of_le _ (by decide)]
    show ((x.toBitVec.sshiftRight (s.toBitVec.smod 64).toNat) &&& 255#64).setWidth 32 = _
    rw [hs]
  have e2 : ((((x.toUInt64 >>> s.toUInt64).toInt64).toInt32) &&& (255 : Int32)).toBitVec = ((x.toBitVec >>> k).setWidth 32) &&& 255#32 := by
    rw [Int32.toBitVec_and, Int64.toBitVec_toInt32, BitVec.signExtend_eq_setWidth_of_le _ (by decide)]
    show ((x.toUInt64 >>> s.toUInt64).toBitVec.setWidth 32) &&& 255#32 = _
    rw [UInt64.toBitVec_shiftRight]
    show ((x.toBitVec >>> (s.toUInt64.toBitVec % 64).toNat).setWidth 32) &&& 255#32 = _
    rw [hu]
  rw [e1, e2]
  exact bits_eq _ _ hk
/-- the two ways to take byte k out of a word are one -/
theorem ch_eq {x : Int64} {k : Nat} (hk : k < 8) : ((x >>> (((8 : Int32) * Int32.ofNat k).toInt64 &&& 63)) &&& (255 : Int64)).toInt32 = ch x k := by
  unfold ch d_De_byteOf
  have h : ∀ j, j < 8 → (((((8 : Int32) * Int32.ofNat j).toInt64 &&& 63).toBitVec.smod 64).toNat = 8 * j ∧ (((((8 : Int32) * Int32.ofNat j).toInt64 &&& 63).toUInt64).toBitVec % 64).toNat = 8 * j) ∧ (((8 : Int32) * Int32.ofNat j).toInt64.toUInt64 &&& Int64.toUInt64 63) = (((8 : Int32) * Int32.ofNat j).toInt64 &&& 63).toUInt64 := by decide +kernel
  obtain ⟨⟨h1, h2⟩, h3⟩ := h k hk
  rw [h3]
  exact ch_lit h1 h2 (by omega)
theorem ty_1 {w : Nat} {x : Int64} {v : pd_V} : ∀ (m k f : Nat), m < f → k + m ≤ 8 → d_De_isTypable_2 w f x (Int32.ofNat (k + m)) (Int32.ofNat k) v = some (bif allg x k m then 1 else 0) := by
  intro m
  induction m with
  | zero =>
    intro k f hf hk
    obtain ⟨f, rfl⟩ : ∃ g, f = g + 1 := ⟨f - 1, by omega⟩
    rw [d_De_isTypable_2, le_nat (by omega) (by omega), decide_eq_true (show k + 0 ≤ k by omega)]
    rfl
  | succ m ih =>
    intro k f hf hk
    obtain ⟨f, rfl⟩ : ∃ g, f = g + 1 := ⟨f - 1, by omega⟩
    have h := ih (k + 1) f (by omega) (by omega)
    rw [d_De_isTypable_2, le_nat (by omega) (by omega), decide_eq_false (show ¬ k + (m + 1) ≤ k by omega)]
    rw [show k + 1 + m = k + (m + 1) by omega, inc_ofNat k] at h
    show (bif decide (ch x k < 33) then some 0 else bif decide (ch x k ≤ 126) then d_De_isTypable_2 w f x (Int32.ofNat (k + (m + 1))) (Int32.ofNat k + 1) v else some 0) = some (bif (!(decide (ch x k < (33 : Int32))) && decide (ch x k ≤ (126 : Int32))) && allg x (k + 1) m then 1 else 0)
    cases decide (ch x k < (33 : Int32))
    · cases decide (ch x k ≤ (126 : Int32))
      · rfl
      · exact h
    · rfl
/-- what the reference does once all characters are right -/
def ty_f (w : Nat) (x : Int64) (n : Int32) (v : pd_V) : Option (Int32 × pd_V) :=
  bif decide (((v 198 2) + n) ≤ (160 : Int32)) then
    (d_Mo_throwing 0 (0 : Int32) (0 : Int32) v).bind fun q6 => bif decide (q6.1 = 0) then d_Mo_type_89 w w x (n - (1 : Int32)) q6.2 else some ((0 : Int32), q6.2)
  else
    (d_Mo_throwing 0 (1 : Int32) (0 : Int32) v).bind fun q8 => bif decide (q8.1 = 0) then d_Mo_type_89 w w x (n - (1 : Int32)) q8.2 else some ((0 : Int32), q8.2)
theorem ty_b {w f : Nat} {x : Int64} {n k : Int32} {v : pd_V} : d_Mo_type_12 w (f + 1) x n 1 k v = some (0, pd_w v 198 0 1) := by
  rw [d_Mo_type_12]
  cases decide (n ≤ k) <;> rfl
theorem bey_g {x : Int64} {k : Nat} : d_Mo_beyond (ch x k) (33 : Int32) (126 : Int32) = bif gd x k then 0 else 1 := by
  unfold d_Mo_beyond gd
  cases decide (ch x k < (33 : Int32)) <;> cases decide (ch x k ≤ (126 : Int32)) <;> rfl
theorem ty_2 {w : Nat} {x : Int64} {v : pd_V} : ∀ (m k f : Nat), m < f → k + m ≤ 8 → d_Mo_type_12 w f x (Int32.ofNat (k + m)) 0 (Int32.ofNat k) v = bif allg x k m then ty_f w x (Int32.ofNat (k + m)) v else some (0, pd_w v 198 0 1) := by
  intro m
  induction m with
  | zero =>
    intro k f hf hk
    obtain ⟨f, rfl⟩ : ∃ g, f = g + 1 := ⟨f - 1, by omega⟩
    rw [d_Mo_type_12, le_nat (by omega) (by omega), decide_eq_true (show k + 0 ≤ k by omega)]
    rfl
  | succ m ih =>
    intro k f hf hk
    obtain ⟨f, rfl⟩ : ∃ g, f = g + 2 := ⟨f - 2, by omega⟩
    have h := ih (k + 1) (f + 1) (by omega) (by omega)
    rw [d_Mo_type_12, le_nat (by omega) (by omega), decide_eq_false (show ¬ k + (m + 1) ≤ k by omega), ch_eq (by omega), bey_g]
    rw [show k + 1 + m = k + (m + 1) by omega, inc_ofNat k] at h
    show d_Mo_type_12 w (f + 1) x (Int32.ofNat (k + (m + 1))) (bif gd x k then 0 else 1) (Int32.ofNat k + 1) v = bif gd x k && allg x (k + 1) m then _ else _
    cases gd x k
    · exact ty_b
    · exact h
theorem ty_3 {w : Nat} {x : Int64} : ∀ (m f len : Nat) (v : pd_V), m < f → v 1 1 = Int32.ofNat len → len + m ≤ 160 → ∃ v', d_Re_append_19 w f x (Int32.ofNat m - 1) v = some (1, v') ∧ v' 1 1 = Int32.ofNat (len + m) ∧ ∀ a, 3 ≤ a → v' a = v a := by
  intro m
  induction m with
  | zero =>
    intro f len v hf hv hl
    obtain ⟨f, rfl⟩ : ∃ g, f = g + 1 := ⟨f - 1, by omega⟩
    refine ⟨v, ?_, hv, fun a _ => rfl⟩
    rw [d_Re_append_19, show decide (Int32.ofNat 0 - 1 < (0 : Int32)) = true by decide]
    rfl
  | succ m ih =>
    intro f len v hf hv hl
    obtain ⟨f, rfl⟩ : ∃ g, f = g + 1 := ⟨f - 1, by omega⟩
    obtain ⟨v', h1, h2, h3⟩ := ih f (len + 1) (pd_w (pd_w v 2 len (ch x m)) 1 1 (Int32.ofNat (len + 1))) (by omega) pd_w_self (by omega)
    refine ⟨v', ?_, by rw [h2]; congr 1; omega, fun a ha => ?_⟩
    · rw [d_Re_append_19, dec_ofNat, hv, decide_eq_false (Int32.ofNat_not_neg (small (by omega))), show (160 : Int32) = Int32.ofNat 160 from rfl, le_nat (by omega) (by omega), decide_eq_false (show ¬ 160 ≤ len by omega), in_nat (by omega) (by omega), cl_nat (by omega), dm1, ← inc_ofNat]
      exact h1
    · rw [h3 a ha]
      funext j
      rw [pd_w_ne (show a ≠ 1 by omega), pd_w_ne (show a ≠ 2 by omega)]
theorem ty_4 {w : Nat} {x : Int64} : ∀ (m f len : Nat) (v : pd_V), m < f → v 198 2 = Int32.ofNat len → len + m ≤ 160 → ∃ v', d_Mo_type_89 w f x (Int32.ofNat m - 1) v = some (Int32.ofNat (len + m), v') ∧ v' 198 0 = v 198 0 := by
  intro m
  induction m with
  | zero =>
    intro f len v hf hv hl
    obtain ⟨f, rfl⟩ : ∃ g, f = g + 1 := ⟨f - 1, by omega⟩
    refine ⟨v, ?_, rfl⟩
    rw [d_Mo_type_89, show decide (Int32.ofNat 0 - 1 < (0 : Int32)) = true by decide, hv]
    rfl
  | succ m ih =>
    intro f len v hf hv hl
    obtain ⟨f, rfl⟩ : ∃ g, f = g + 1 := ⟨f - 1, by omega⟩
    obtain ⟨v', h1, h2⟩ := ih f (len + 1) (pd_w (pd_w v 199 len (((x >>> (((8 : Int32) * Int32.ofNat m).toInt64 &&& 63)) &&& (255 : Int64)).toInt32)) 198 2 (Int32.ofNat (len + 1))) (by omega) pd_w_self (by omega)
    refine ⟨v', ?_, ?_⟩
    · rw [d_Mo_type_89, dec_ofNat, hv, decide_eq_false (Int32.ofNat_not_neg (small (by omega))), in_nat (by omega) (by omega), cl_nat (by omega), dm1, ← inc_ofNat, show len + (m + 1) = len + 1 + m by omega]
      exact h1
    · rw [h2, pd_w_nk (show (0 : Nat) ≠ 2 by decide), pd_w_ne (show (198 : Nat) ≠ 199 by decide)]
theorem eT {v : pd_V} {x : Int64} {n : Int32} {g : Nat → Int64} (hF : p1_F v) : okL ((d_La_type 40 x n v g).bind fun q7 => (d_Mo_type 40 x n q7.2.1).bind fun q11 => bif decide ((d_Mo_thrown q11.2) = q7.1) then bif !(decide (q7.1 = 0)) then some (Sum.inl (q11.2, q7.2.2.1, q7.2.2.2)) else bif decide ((lg_cmp (q7.2.2.1 0) (q11.1.toInt64)) = 0) then some (Sum.inl (q11.2, q7.2.2.1, q7.2.2.2)) else some (Sum.inr (0 : Int32)) else some (Sum.inr (0 : Int32))) = true := by
  obtain ⟨-, -, f11, -, -, m2, -, -, -, -, -⟩ := hF
  by_cases h0 : n < 1
  · refine fin_i (d_Mo_type 40 x n) b1 (by unfold d_La_type d_De_type; rw [decide_eq_true h0]; rfl) ?_
    unfold d_Mo_type
    rw [bey_lo h0]
    exact ty_b
  by_cases h1 : n ≤ 8
  rotate_left
  · have h2 : (8 : Int32) < n := by
      rw [Int32.lt_iff_toInt_lt]
      have h9 : ¬ n.toInt ≤ (8 : Int32).toInt := fun q => h1 (Int32.le_iff_toInt_le.mpr q)
      omega
    refine fin_i (d_Mo_type 40 x n) b1 (by unfold d_La_type d_De_type; rw [decide_eq_false h0, decide_eq_true h2]; rfl) ?_
    unfold d_Mo_type
    rw [bey_hi h0 h1]
    exact ty_b
  have h2 : ¬ (8 : Int32) < n := by rw [Int32.lt_iff_toInt_lt]; have := Int32.le_iff_toInt_le.mp h1; omega
  obtain ⟨m, hm, rfl⟩ : ∃ m : Nat, m ≤ 8 ∧ n = Int32.ofNat m := by
    obtain ⟨N, g1, g2⟩ := int_eq_ofNat_of_bounds (C := 8) (by decide) (show (0 : Int32) ≤ n by
      rw [Int32.le_iff_toInt_le]
      have h9 : ¬ n.toInt < (1 : Int32).toInt := fun q => h0 (Int32.lt_iff_toInt_lt.mpr q)
      have e1 : (1 : Int32).toInt = 1 := by decide
      have e0 : (0 : Int32).toInt = 0 := by decide
      omega) h1
    exact ⟨N, g1, g2⟩
  have t1 := ty_1 (w := 40) (x := x) (v := v) m 0 40 (by omega) (by omega)
  rw [Nat.zero_add] at t1
  have hb : ∀ u : pd_V, d_Mo_type 40 x (Int32.ofNat m) u = bif allg x 0 m then ty_f 40 x (Int32.ofNat m) u else some (0, pd_w u 198 0 1) := by
    intro u
    have t2 := ty_2 (w := 40) (x := x) (v := u) m 0 40 (by omega) (by omega)
    rw [Nat.zero_add] at t2
    unfold d_Mo_type
    rw [bey_in h0 h1]
    exact t2
  cases hg : allg x 0 m
  · rw [hg] at t1
    refine fin_i (v := v) (g := g) (d_Mo_type 40 x (Int32.ofNat m)) b1 ?_ (by rw [hb, hg]; rfl)
    unfold d_La_type d_De_type d_De_isTypable
    rw [decide_eq_false h0, decide_eq_false h2, show (0 : Int32) = Int32.ofNat 0 from rfl, t1]
    rfl
  · rw [hg] at t1
    obtain ⟨v', a1, a2, a3⟩ := ty_3 (w := 40) (x := x) m 40 0 v (by omega) (by rw [f11]; rfl) (by omega)
    rw [Nat.zero_add] at a2
    have c1 : d_La_type 40 x (Int32.ofNat m) v g = some (0, v', vp_updL g 0 (Int32.ofNat m).toInt64, 0) := by
      have ha : d_Re_append 40 x (Int32.ofNat m) v = some (1, v') := by
        unfold d_Re_append
        rw [f11, show (160 : Int32) - 0 = Int32.ofNat 160 by decide, le_nat (by omega) (by omega), decide_eq_true (show m ≤ 160 by omega)]
        exact a1
      unfold d_La_type d_De_type d_De_isTypable
      rw [decide_eq_false h0, decide_eq_false h2]
      show ((((d_De_isTypable_2 40 40 x (Int32.ofNat m) (Int32.ofNat 0) v).bind _)).bind _) = _
      rw [t1]
      show ((((d_Re_append 40 x (Int32.ofNat m) v).bind _)).bind _) = _
      rw [ha]
      show some ((0 : Int32), v', vp_updL g 0 (v' 1 1).toInt64, 0) = _
      rw [a2]
    have e198 : v' 198 = v 198 := a3 198 (by decide)
    obtain ⟨v'', d1, d2⟩ := ty_4 (w := 40) (x := x) m 40 0 (pd_w v' 198 0 0) (by omega) (by rw [pd_w_nk (show (2 : Nat) ≠ 0 by decide), e198, m2]; rfl) (by omega)
    rw [Nat.zero_add] at d1
    have c2 : d_Mo_type 40 x (Int32.ofNat m) v' = some (Int32.ofNat m, v'') := by
      rw [hb, hg]
      show ty_f 40 x (Int32.ofNat m) v' = _
      unfold ty_f
      rw [e198, m2, show (0 : Int32) + Int32.ofNat m = Int32.ofNat m by rw [Int32.zero_add], show (160 : Int32) = Int32.ofNat 160 from rfl, le_nat (by omega) (by omega), decide_eq_true (show m ≤ 160 by omega), thr_0]
      exact d1
    rw [c1]
    show okL ((d_Mo_type 40 x (Int32.ofNat m) v').bind _) = true
    rw [c2]
    show okL (bif decide (v'' 198 0 = 0) then (bif decide (lg_cmp ((vp_updL g 0 (Int32.ofNat m).toInt64) 0) ((Int32.ofNat m).toInt64) = 0) then some (Sum.inl (v'', vp_updL g 0 (Int32.ofNat m).toInt64, 0)) else _) else _) = true
    rw [d2, pd_w_self]
    have e : lg_cmp ((vp_updL g 0 (Int32.ofNat m).toInt64) 0) ((Int32.ofNat m).toInt64) = 0 := by
      show lg_cmp ((Int32.ofNat m).toInt64) ((Int32.ofNat m).toInt64) = 0
      unfold lg_cmp
      simp
    rw [e]
    rfl
