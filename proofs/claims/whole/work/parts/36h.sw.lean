/-! steps, as the class writes them -/
section SWS
variable {s : Nat → Int32} {n m w a i0 p j : Nat} {v u : pd_V} {x y1 y2 y3 : Int32}
theorem zas_t (ha : ker a) (hj : v a 3 = Int32.ofNat j) (hj2 : j < 80) : d_Ke_addStep a y1 y2 y3 v = some (a + 4 + j, pd_w (pd_w (pd_w (pd_w (pd_w v a 3 (Int32.ofNat (j + 1))) (a + 4 + j) 0 y1) (a + 4 + j) 1 y2) (a + 4 + j) 2 y3) (a + 4 + j) 4 (0 : Int32)) := by
  have em : d_Mat_min (v a 3) (79 : Int32) = Int32.ofNat j := by
    unfold d_Mat_min
    rw [hj, show (79 : Int32) = Int32.ofNat 79 from rfl, lt_nat (by omega) (by omega), decide_eq_false (show ¬ 79 < j by omega)]
    rfl
  unfold d_Ke_addStep
  rw [em, in_nat (show j < 80 by omega) (by omega), cl_nat (by omega), ofN1]
  rfl
/-- what reading a statement leaves alone: the reader's place and what it names, the kernel's counts, the items above i0, its own row -/
def SF (a i0 b : Nat) (v q : pd_V) : Prop := (∀ c, c ≠ 1 → c ≠ a → c ≠ a + 2 → c ≠ a + 3 → c ≠ b → q c = v c) ∧ (∀ k, k ≠ 2 → k ≠ 6 → q 1 k = v 1 k) ∧ (∀ k, k ≠ 4 → q a k = v a k) ∧ (∀ i, i < i0 → q (a + 2) i = v (a + 2) i ∧ q (a + 3) i = v (a + 3) i)
variable {b : Nat} {q : pd_V}
theorem SF_r : SF a i0 b v v := ⟨fun _ _ _ _ _ _ => rfl, fun _ _ _ => rfl, fun _ _ => rfl, fun _ _ => ⟨rfl, rfl⟩⟩
theorem SF_t {i1 : Nat} (hi : i0 ≤ i1) (h1 : SF a i0 b v u) (h2 : SF a i1 b u q) : SF a i0 b v q := ⟨fun c c1 c2 c3 c4 c5 => (h2.1 c c1 c2 c3 c4 c5).trans (h1.1 c c1 c2 c3 c4 c5), fun k c d => (h2.2.1 k c d).trans (h1.2.1 k c d), fun k c => (h2.2.2.1 k c).trans (h1.2.2.1 k c), fun i hi2 => ⟨(h2.2.2.2 i (by omega)).1.trans (h1.2.2.2 i hi2).1, (h2.2.2.2 i (by omega)).2.trans (h1.2.2.2 i hi2).2⟩⟩
theorem SF_X (h : XF a i0 v q) : SF a i0 b v q := ⟨fun c c1 c2 c3 c4 _ => h.1 c c1 c2 c3 c4, h.2.1, fun k d => h.2.2.1 k d, h.2.2.2⟩
theorem SF_b {k : Nat} (ha : ker a) (hb : b = a + 4 + j ∧ j < 80) (h : SF a i0 b v u) : SF a i0 b v (pd_w u b k x) := by
  have pa : a = 3 ∨ a = 88 := ha
  refine ⟨fun c c1 c2 c3 c4 c5 => ?_, fun i c d => ?_, fun i c => ?_, fun i hi => ?_⟩
  · rw [pd_wa c5]; exact h.1 c c1 c2 c3 c4 c5
  · rw [pd_w_ne (by omega)]; exact h.2.1 i c d
  · rw [pd_w_ne (by omega)]; exact h.2.2.1 i c
  · rw [pd_w_ne (by omega), pd_w_ne (by omega)]; exact h.2.2.2 i hi
theorem SF_1 {k : Nat} (ha : ker a) (h : SF a i0 b v u) (hk : k = 2 ∨ k = 6) : SF a i0 b v (pd_w u 1 k x) := by
  have pa : a = 3 ∨ a = 88 := ha
  refine ⟨fun c c1 c2 c3 c4 c5 => ?_, fun i c d => ?_, fun i c => ?_, fun i hi => ?_⟩
  · rw [pd_wa c1]; exact h.1 c c1 c2 c3 c4 c5
  · rw [pd_w_nk (by omega)]; exact h.2.1 i c d
  · rw [pd_w_ne (by omega)]; exact h.2.2.1 i c
  · rw [pd_w_ne (by omega), pd_w_ne (by omega)]; exact h.2.2.2 i hi
end SWS
