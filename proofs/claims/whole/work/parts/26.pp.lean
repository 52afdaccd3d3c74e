/-! one call on fresh objects -/
abbrev pl_R : Type := Option ((pd_V × (Nat → Int64) × Nat) ⊕ Int32)
def okL (r : pl_R) : Bool := match r with
  | some (.inl q) => Nat.ble q.2.2 1
  | _ => false
theorem okL_ex {r : pl_R} (h : okL r = true) : ∃ q, r = some (.inl q) ∧ q.2.2 ≤ 1 := by
  rcases r with _ | q | x
  · exact nomatch (show false = true from h)
  · exact ⟨q, rfl, Nat.le_of_ble_eq_true h⟩
  · exact nomatch (show false = true from h)
theorem okL_bif {c : Bool} {A B : pl_R} (h1 : c = true → okL A = true) (h2 : c = false → okL B = true) : okL (bif c then A else B) = true := by
  cases c
  · exact h2 rfl
  · exact h1 rfl
theorem pd_w_self {v : pd_V} {a k : Nat} {x : Int32} : pd_w v a k x a k = x := by simp [pd_w, va_up, upd]
theorem pd_w_ne {v : pd_V} {a k b j : Nat} {x : Int32} (h : b ≠ a) : pd_w v a k x b j = v b j := by simp [pd_w, va_up, h]
theorem pd_w_nk {v : pd_V} {a k j : Nat} {x : Int32} (h : j ≠ k) : pd_w v a k x a j = v a j := by simp [pd_w, va_up, upd, h]
theorem pd_in {a : Int32} {n : Nat} (h0 : ¬ a < 0) (h1 : a.toInt < (n : Int)) : pm_in a n = true := by
  have h2 : ¬ a.toInt < 0 := fun q => h0 (Int32.lt_iff_toInt_lt.mpr q)
  unfold pm_in
  rw [decide_eq_false h0]
  show (true && Nat.blt a.toNatClampNeg n) = true
  rw [Bool.true_and, Nat.blt_eq]
  show a.toInt.toNat < n
  omega
theorem thr_1 {l2 l3 : Int32} {v : pd_V} : d_Mo_throwing 1 l2 l3 v = some (1, pd_w v 198 0 1) := rfl
theorem thr_2 {l3 : Int32} {v : pd_V} : d_Mo_throwing 0 1 l3 v = some (1, pd_w v 198 0 2) := rfl
theorem thr_3 {v : pd_V} : d_Mo_throwing 0 0 1 v = some (1, pd_w v 198 0 3) := rfl
theorem thr_0 {v : pd_V} : d_Mo_throwing 0 0 0 v = some (0, pd_w v 198 0 0) := rfl
theorem bey_lo {a l h : Int32} (q : a < l) : d_Mo_beyond a l h = 1 := by unfold d_Mo_beyond; rw [decide_eq_true q]; rfl
theorem bey_in {a l h : Int32} (q : ¬ a < l) (r : a ≤ h) : d_Mo_beyond a l h = 0 := by unfold d_Mo_beyond; rw [decide_eq_false q, decide_eq_true r]; rfl
theorem bey_hi {a l h : Int32} (q : ¬ a < l) (r : ¬ a ≤ h) : d_Mo_beyond a l h = 1 := by unfold d_Mo_beyond; rw [decide_eq_false q, decide_eq_false r]; rfl
theorem le_of_lt_succ {a h k : Int32} (hk : h.toInt + 1 = k.toInt) : a < k ↔ a ≤ h := by
  rw [Int32.lt_iff_toInt_lt, Int32.le_iff_toInt_le]
  omega
/-- what the fresh objects hold -/
def p1_F (v : pd_V) : Prop := v 0 2 = 0 ∧ v 0 3 = -1 ∧ v 1 1 = 0 ∧ v 173 1 = 0 ∧ v 186 1 = 0 ∧ v 198 2 = 0 ∧ v 198 5 = 0 ∧ v 198 7 = -1 ∧ v 198 20 = 0 ∧ v 198 26 = 0 ∧ v 198 27 = 0
set_option maxRecDepth 100000 in
theorem p1_F0 : p1_F pd_0 := by unfold p1_F; decide +kernel
section PP
variable {v : pd_V} {g : Nat → Int64} {k a1 a2 a3 b : Int32}
theorem fin_i {H : Option (Int32 × pd_V × (Nat → Int64) × Nat)} (M : pd_V → Option (Int32 × pd_V)) (hk : (!(decide (k = 0))) = true) (h1 : H = some (k, v, g, 1)) (h2 : M v = some (0, pd_w v 198 0 k)) :
    okL (H.bind fun q => (M q.2.1).bind fun r => bif decide ((d_Mo_thrown r.2) = q.1) then bif !(decide (q.1 = 0)) then some (Sum.inl (r.2, q.2.2.1, q.2.2.2)) else bif decide ((lg_cmp (q.2.2.1 0) (r.1.toInt64)) = 0) then some (Sum.inl (r.2, q.2.2.1, q.2.2.2)) else some (Sum.inr (0 : Int32)) else some (Sum.inr (0 : Int32))) = true := by
  subst h1
  show okL ((M v).bind _) = true
  rw [h2]
  show okL (bif decide (pd_w v 198 0 k 198 0 = k) then (bif !(decide (k = 0)) then some (Sum.inl (pd_w v 198 0 k, g, 1)) else _) else _) = true
  rw [pd_w_self, decide_eq_true rfl, hk]
  rfl
theorem fin_v {H : Option (Int32 × pd_V × (Nat → Int64) × Nat)} (M : pd_V → Option pd_V) {v' v2 : pd_V} {n : Nat} (hn : Nat.ble n 1 = true) (h1 : H = some (k, v', g, n)) (h2 : M v' = some v2) (h3 : v2 198 0 = k) :
    okL (H.bind fun q => (M q.2.1).bind fun r => bif decide ((d_Mo_thrown r) = q.1) then some (Sum.inl (r, q.2.2.1, q.2.2.2)) else some (Sum.inr (0 : Int32))) = true := by
  subst h1
  show okL ((M v').bind _) = true
  rw [h2]
  show okL (bif decide (v2 198 0 = k) then some (Sum.inl (v2, g, n)) else _) = true
  rw [h3, decide_eq_true rfl]
  exact hn
theorem b1 : (!(decide ((1 : Int32) = 0))) = true := by decide
theorem b2 : (!(decide ((2 : Int32) = 0))) = true := by decide
theorem lt8 : a2 < 8 ↔ a2 ≤ 7 := le_of_lt_succ (by decide)
theorem lt16 : a2 < 16 ↔ a2 ≤ 15 := le_of_lt_succ (by decide)
/-! the class -/
theorem cA_crew0 (h : v 173 1 = 0) (h1 : ¬ a2 < 0) (h2 : a2 < 8) : d_De_crewOf 0 a2 v = some (Sum.inr 1) := by
  unfold d_De_crewOf; rw [decide_eq_false h1, decide_eq_true h2, h]; rfl
theorem cA_crew1 (h : v 186 1 = 0) (h1 : ¬ a2 < 0) (h2 : a2 < 8) : d_De_crewOf 1 a2 v = some (Sum.inr 1) := by
  unfold d_De_crewOf; rw [decide_eq_false h1, decide_eq_true h2, h]; rfl
theorem cA_crewL (h1 : a2 < 0) : d_De_crewOf b a2 v = some (Sum.inr 0) := by
  unfold d_De_crewOf; rw [decide_eq_true h1]; rfl
theorem cA_crewH (h1 : ¬ a2 < 0) (h2 : ¬ a2 < 8) : d_De_crewOf b a2 v = some (Sum.inr 0) := by
  unfold d_De_crewOf; rw [decide_eq_false h1, decide_eq_false h2]; rfl
theorem cA_lane_w (h : a3 < 0 ∨ ¬ a3 ≤ 2) : d_La_lane b a2 a3 v g = some (1, v, g, 1) := by
  unfold d_La_lane d_De_lane
  by_cases h0 : a3 < 0
  · rw [decide_eq_true h0]; rfl
  · rw [decide_eq_false h0, decide_eq_false (h.resolve_left h0)]; rfl
theorem cA_lane_c {x : Nat} (h1 : ¬ a3 < 0) (h2 : a3 ≤ 2) (h : d_De_crewOf b a2 v = some (Sum.inr x)) (hx : x = 0 ∨ x = 1) : d_La_lane b a2 a3 v g = some (Int32.ofNat (x + 1), v, g, 1) := by
  unfold d_La_lane d_De_lane
  rw [decide_eq_false h1, decide_eq_true h2, h]
  rcases hx with rfl | rfl <;> rfl
theorem cA_cell_w (h : a3 < 0 ∨ ¬ a3 < 16) : d_La_cell b a2 a3 v g = some (1, v, g, 1) := by
  unfold d_La_cell d_De_cell
  by_cases h0 : a3 < 0
  · rw [decide_eq_true h0]; rfl
  · rw [decide_eq_false h0, decide_eq_false (h.resolve_left h0)]; rfl
theorem cA_cell_c {x : Nat} (h1 : ¬ a3 < 0) (h2 : a3 < 16) (h : d_De_crewOf b a2 v = some (Sum.inr x)) (hx : x = 0 ∨ x = 1) : d_La_cell b a2 a3 v g = some (Int32.ofNat (x + 1), v, g, 1) := by
  unfold d_La_cell d_De_cell
  rw [decide_eq_false h1, decide_eq_true h2, h]
  rcases hx with rfl | rfl <;> rfl
theorem cA_out_c {x : Nat} (h : d_De_crewOf b a2 v = some (Sum.inr x)) (hx : x = 0 ∨ x = 1) : d_La_out b a2 a3 v g = some (Int32.ofNat (x + 1), v, g, 1) := by
  unfold d_La_out d_De_out
  rw [h]
  rcases hx with rfl | rfl <;> rfl
/-! the reference -/
theorem mA_not0 (h : v 198 20 = 0) : d_Mo_isNot 0 v = 1 := by unfold d_Mo_isNot; rw [h]; rfl
theorem mA_not1 (h : v 198 27 = 0) : d_Mo_isNot 1 v = 1 := by unfold d_Mo_isNot; rw [h]; rfl
theorem mA_lane_1 (h : d_Mo_beyond a2 0 7 = 1) : d_Mo_lane b a2 a3 v = some (0, pd_w v 198 0 1) := by unfold d_Mo_lane; rw [h]; rfl
theorem mA_lane_2 (h : d_Mo_beyond a2 0 7 = 0) (h2 : d_Mo_beyond a3 0 2 = 1) : d_Mo_lane b a2 a3 v = some (0, pd_w v 198 0 1) := by unfold d_Mo_lane; rw [h, h2]; rfl
theorem mA_lane_3 (h : d_Mo_beyond a2 0 7 = 0) (h2 : d_Mo_beyond a3 0 2 = 0) (h3 : d_Mo_isNot b v = 1) : d_Mo_lane b a2 a3 v = some (0, pd_w v 198 0 2) := by unfold d_Mo_lane; rw [h, h2, h3]; rfl
theorem mA_cell_1 (h : d_Mo_beyond a2 0 7 = 1) : d_Mo_cell b a2 a3 v = some (0, pd_w v 198 0 1) := by unfold d_Mo_cell; rw [h]; rfl
theorem mA_cell_2 (h : d_Mo_beyond a2 0 7 = 0) (h2 : d_Mo_beyond a3 0 15 = 1) : d_Mo_cell b a2 a3 v = some (0, pd_w v 198 0 1) := by unfold d_Mo_cell; rw [h, h2]; rfl
theorem mA_cell_3 (h : d_Mo_beyond a2 0 7 = 0) (h2 : d_Mo_beyond a3 0 15 = 0) (h3 : d_Mo_isNot b v = 1) : d_Mo_cell b a2 a3 v = some (0, pd_w v 198 0 2) := by unfold d_Mo_cell; rw [h, h2, h3]; rfl
theorem mA_out_1 (hb : b = 0 ∨ b = 1) (h : d_Mo_beyond a2 0 7 = 1) : d_Mo_out b a2 a3 v = some (0, pd_w v 198 0 1) := by rcases hb with rfl | rfl <;> (unfold d_Mo_out; rw [h]; rfl)
theorem mA_out_2 (hb : b = 0 ∨ b = 1) (h : d_Mo_beyond a2 0 7 = 0) (h3 : d_Mo_isNot b v = 1) : d_Mo_out b a2 a3 v = some (0, pd_w v 198 0 2) := by rcases hb with rfl | rfl <;> (unfold d_Mo_out; rw [h, h3]; rfl)
/-- lane, out and cell: three ends -/
theorem bA {b : Int32} (hF : p1_F v) (hb : b = 0 ∨ b = 1) : d_Mo_isNot b v = 1 ∧ (¬ a2 < 0 → a2 < 8 → d_De_crewOf b a2 v = some (Sum.inr 1)) := by
  obtain ⟨-, -, -, fs, ff, -, -, -, m20, -, m27⟩ := hF
  rcases hb with rfl | rfl
  · exact ⟨mA_not0 m20, fun h1 h2 => cA_crew0 fs h1 h2⟩
  · exact ⟨mA_not1 m27, fun h1 h2 => cA_crew1 ff h1 h2⟩
theorem eA_lane (hF : p1_F v) (hb : b = 0 ∨ b = 1) : ∃ k : Int32, (!(decide (k = 0))) = true ∧ d_La_lane b a2 a3 v g = some (k, v, g, 1) ∧ d_Mo_lane b a2 a3 v = some (0, pd_w v 198 0 k) := by
  obtain ⟨hn, hc⟩ := bA (a2 := a2) hF hb
  by_cases w : a3 < 0 ∨ ¬ a3 ≤ 2
  · refine ⟨1, b1, cA_lane_w w, ?_⟩
    have h2 : d_Mo_beyond a3 0 2 = 1 := by
      by_cases h0 : a3 < 0
      · exact bey_lo h0
      · exact bey_hi h0 (w.resolve_left h0)
    by_cases l0 : a2 < 0
    · exact mA_lane_1 (bey_lo l0)
    · by_cases l1 : a2 ≤ 7
      · exact mA_lane_2 (bey_in l0 l1) h2
      · exact mA_lane_1 (bey_hi l0 l1)
  · have w1 : ¬ a3 < 0 := fun q => w (Or.inl q)
    have w2 : a3 ≤ 2 := Decidable.of_not_not (fun q => w (Or.inr q))
    by_cases l0 : a2 < 0
    · exact ⟨1, b1, cA_lane_c w1 w2 (cA_crewL l0) (Or.inl rfl), mA_lane_1 (bey_lo l0)⟩
    · by_cases l1 : a2 < 8
      · exact ⟨2, b2, cA_lane_c w1 w2 (hc l0 l1) (Or.inr rfl), mA_lane_3 (bey_in l0 (lt8.mp l1)) (bey_in w1 w2) hn⟩
      · exact ⟨1, b1, cA_lane_c w1 w2 (cA_crewH l0 l1) (Or.inl rfl), mA_lane_1 (bey_hi l0 (fun q => l1 (lt8.mpr q)))⟩
theorem eA_cell (hF : p1_F v) (hb : b = 0 ∨ b = 1) : ∃ k : Int32, (!(decide (k = 0))) = true ∧ d_La_cell b a2 a3 v g = some (k, v, g, 1) ∧ d_Mo_cell b a2 a3 v = some (0, pd_w v 198 0 k) := by
  obtain ⟨hn, hc⟩ := bA (a2 := a2) hF hb
  by_cases w : a3 < 0 ∨ ¬ a3 < 16
  · refine ⟨1, b1, cA_cell_w w, ?_⟩
    have h2 : d_Mo_beyond a3 0 15 = 1 := by
      by_cases h0 : a3 < 0
      · exact bey_lo h0
      · exact bey_hi h0 (fun q => w.resolve_left h0 (lt16.mpr q))
    by_cases l0 : a2 < 0
    · exact mA_cell_1 (bey_lo l0)
    · by_cases l1 : a2 ≤ 7
      · exact mA_cell_2 (bey_in l0 l1) h2
      · exact mA_cell_1 (bey_hi l0 l1)
  · have w1 : ¬ a3 < 0 := fun q => w (Or.inl q)
    have w2 : a3 < 16 := Decidable.of_not_not (fun q => w (Or.inr q))
    by_cases l0 : a2 < 0
    · exact ⟨1, b1, cA_cell_c w1 w2 (cA_crewL l0) (Or.inl rfl), mA_cell_1 (bey_lo l0)⟩
    · by_cases l1 : a2 < 8
      · exact ⟨2, b2, cA_cell_c w1 w2 (hc l0 l1) (Or.inr rfl), mA_cell_3 (bey_in l0 (lt8.mp l1)) (bey_in w1 (lt16.mp w2)) hn⟩
      · exact ⟨1, b1, cA_cell_c w1 w2 (cA_crewH l0 l1) (Or.inl rfl), mA_cell_1 (bey_hi l0 (fun q => l1 (lt8.mpr q)))⟩
theorem eA_out (hF : p1_F v) (hb : b = 0 ∨ b = 1) : ∃ k : Int32, (!(decide (k = 0))) = true ∧ d_La_out b a2 a3 v g = some (k, v, g, 1) ∧ d_Mo_out b a2 a3 v = some (0, pd_w v 198 0 k) := by
  obtain ⟨hn, hc⟩ := bA (a2 := a2) hF hb
  by_cases l0 : a2 < 0
  · exact ⟨1, b1, cA_out_c (cA_crewL l0) (Or.inl rfl), mA_out_1 hb (bey_lo l0)⟩
  · by_cases l1 : a2 < 8
    · exact ⟨2, b2, cA_out_c (hc l0 l1) (Or.inr rfl), mA_out_2 hb (bey_in l0 (lt8.mp l1)) hn⟩
    · exact ⟨1, b1, cA_out_c (cA_crewH l0 l1) (Or.inl rfl), mA_out_1 hb (bey_hi l0 (fun q => l1 (lt8.mpr q)))⟩
theorem eA_spent (hF : p1_F v) : ∃ k : Int32, (!(decide (k = 0))) = true ∧ d_La_spent a1 v g = some (k, v, g, 1) ∧ d_Mo_spent a1 v = some (0, pd_w v 198 0 k) := by
  obtain ⟨-, -, -, fs, -, -, -, -, m20, -, -⟩ := hF
  by_cases l0 : a1 < 0
  · refine ⟨1, b1, ?_, ?_⟩
    · unfold d_La_spent d_De_spent; rw [decide_eq_true l0]; rfl
    · unfold d_Mo_spent; rw [bey_lo l0]; rfl
  · by_cases l1 : a1 ≤ 1
    · refine ⟨2, b2, ?_, ?_⟩
      · unfold d_La_spent d_De_spent d_De_needStarted; rw [decide_eq_false l0, decide_eq_true l1, fs]; rfl
      · unfold d_Mo_spent; rw [bey_in l0 l1, m20]; rfl
    · refine ⟨1, b1, ?_, ?_⟩
      · unfold d_La_spent d_De_spent; rw [decide_eq_false l0, decide_eq_false l1]; rfl
      · unfold d_Mo_spent; rw [bey_hi l0 l1]; rfl
end PP
