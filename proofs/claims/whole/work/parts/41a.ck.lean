/-! the class reckons what the items are worth -/
/-- what lane l of the crew at c sees -/
def CE (e : xEv) (c l : Nat) (v : pd_V) : Prop := (∀ j, j < 8 → e.1 j = v (c + 2) (8 * l + j)) ∧ (∀ j, j < 16 → e.2.1 j = v (c + 1) j) ∧ (∀ j, j < 8 → e.2.2.1 j = v (c + 3) (8 * l + j)) ∧ e.2.2.2 = Int32.ofNat l
def SK (c : Nat) (st : List Int32) (v : pd_V) : Prop := ∀ t x, st[t]? = some x → v (c + 7) (st.length - t) = x
/-- what reckoning leaves alone -/
def RKF (c : Nat) (v q : pd_V) : Prop := (∀ d, d ≠ c → d ≠ c + 7 → q d = v d) ∧ (∀ k, k ≠ 9 → q c k = v c k)
def CKR (c : Nat) (o : Option (List Int32)) (r : Int32 × pd_V) : Prop := match o with
  | some st => r.2 c 9 = 0 ∧ r.1 = r.2 (c + 7) st.length ∧ SK c st r.2
  | none => r.2 c 9 = 1
section ZCK
variable {s : Nat → Int32} {n m w a c l p q i : Nat} {v u t : pd_V} {x y : Int32} {e : xEv} {st : List Int32}
theorem RKF_r : RKF c v v := ⟨fun _ _ _ => rfl, fun _ _ => rfl⟩
theorem RKF_t (h1 : RKF c v u) (h2 : RKF c u t) : RKF c v t := ⟨fun d a b => (h2.1 d a b).trans (h1.1 d a b), fun k a => (h2.2 k a).trans (h1.2 k a)⟩
theorem RKF_7 {k : Nat} (h : RKF c v u) : RKF c v (pd_w u (c + 7) k x) := ⟨fun d a b => by rw [pd_wa b]; exact h.1 d a b, fun k a => by rw [pd_w_ne (by omega)]; exact h.2 k a⟩
theorem RKF_9 (h : RKF c v u) : RKF c v (pd_w u c 9 x) := ⟨fun d a b => by rw [pd_wa a]; exact h.1 d a b, fun k a => by rw [pd_w_nk a]; exact h.2 k a⟩
theorem CE_F (h : CE e c l v) (f : RKF c v u) : CE e c l u := ⟨fun j hj => by rw [f.1 (c + 2) (by omega) (by omega)]; exact h.1 j hj, fun j hj => by rw [f.1 (c + 1) (by omega) (by omega)]; exact h.2.1 j hj, fun j hj => by rw [f.1 (c + 3) (by omega) (by omega)]; exact h.2.2.1 j hj, h.2.2.2⟩
theorem zand7_r : (List.range 8).all (fun k => decide (Int32.ofNat k &&& 7 = Int32.ofNat k)) = true := by decide +kernel
theorem zand7 {k : Nat} (h : k ≤ 7) : Int32.ofNat k &&& (7 : Int32) = Int32.ofNat k := of_decide_eq_true (List.all_eq_true.mp zand7_r k (List.mem_range.mpr (by omega)))
theorem SK_p (h : SK c st v) : SK c (x :: st) (pd_w v (c + 7) (st.length + 1) x) := by
  intro t y hy
  cases t with
  | zero =>
    have e : x = y := Option.some.inj hy
    show pd_w v (c + 7) (st.length + 1) x (c + 7) (st.length + 1 - 0) = y
    rw [Nat.sub_zero, pd_w_self, e]
  | succ t =>
    have hy' : st[t]? = some y := hy
    show pd_w v (c + 7) (st.length + 1) x (c + 7) (st.length + 1 - (t + 1)) = y
    rw [pd_w_nk (by omega), show st.length + 1 - (t + 1) = st.length - t by omega]
    exact h t y hy'
theorem SK_r {y : Int32} (h : SK c (y :: st) v) : SK c (x :: st) (pd_w v (c + 7) (st.length + 1) x) := by
  intro t z hz
  cases t with
  | zero =>
    have e : x = z := Option.some.inj hz
    show pd_w v (c + 7) (st.length + 1) x (c + 7) (st.length + 1 - 0) = z
    rw [Nat.sub_zero, pd_w_self, e]
  | succ t =>
    have h2 := h (t + 1) z hz
    show pd_w v (c + 7) (st.length + 1) x (c + 7) (st.length + 1 - (t + 1)) = z
    have hl : t < st.length := by
      have hz' : st[t]? = some z := hz
      exact (List.getElem?_eq_some_iff.mp hz').1
    rw [pd_w_nk (by omega)]
    exact h2
theorem SK_h {y : Int32} (h : SK c (y :: st) v) : v (c + 7) (st.length + 1) = y := h 0 y rfl
theorem SK_t {y : Int32} (h : SK c (y :: st) v) : SK c st v := by
  intro t z hz
  have h2 := h (t + 1) z hz
  have e : (y :: st).length - (t + 1) = st.length - t := by
    show st.length + 1 - (t + 1) = st.length - t
    omega
  rw [e] at h2
  exact h2
theorem SK_9 (h : SK c st v) : SK c st (pd_w v c 9 x) := fun t y hy => by rw [pd_w_ne (by omega)]; exact h t y hy
theorem kat (hi : i < 160) : d_Ke_kindAt a (Int32.ofNat i) v = some (v (a + 2) i) := by
  unfold d_Ke_kindAt
  rw [show (160 : Int32) = Int32.ofNat 160 from rfl, le_nat (by omega) (by omega), decide_eq_false (show ¬ 160 ≤ i by omega), in_nat hi (by omega), cl_nat (by omega), decide_eq_false (show ¬ Int32.ofNat i < (0 : Int32) from Int32.ofNat_not_neg (small (by omega)))]
  rfl
theorem vat (hi : i < 160) : d_Ke_valueAt a (Int32.ofNat i) v = some (v (a + 3) i) := by
  unfold d_Ke_valueAt
  rw [show (160 : Int32) = Int32.ofNat 160 from rfl, le_nat (by omega) (by omega), decide_eq_false (show ¬ 160 ≤ i by omega), in_nat hi (by omega), cl_nat (by omega), decide_eq_false (show ¬ Int32.ofNat i < (0 : Int32) from Int32.ofNat_not_neg (small (by omega)))]
  rfl
theorem slot_r : (List.range 8).all (fun l => (List.range 8).all (fun j => decide (d_De_slot (Int32.ofNat l) (Int32.ofNat j) = Int32.ofNat (8 * l + j)))) = true := by decide +kernel
theorem slot_e {l j : Nat} (hl : l < 8) (hj : j < 8) : d_De_slot (Int32.ofNat l) (Int32.ofNat j) = Int32.ofNat (8 * l + j) :=
  of_decide_eq_true (List.all_eq_true.mp (List.all_eq_true.mp slot_r l (List.mem_range.mpr hl)) j (List.mem_range.mpr hj))
theorem slot_v {x : Int32} (hl : l < 8) (h : 0 ≤ x.toInt ∧ x.toInt ≤ 7) : d_De_slot (Int32.ofNat l) x = Int32.ofNat (8 * l + x.toNatClampNeg) ∧ x.toNatClampNeg < 8 := by
  obtain ⟨N, g1, g2⟩ := int_eq_ofNat_of_bounds (C := 7) (n := x) (by decide) (by
    rw [Int32.le_iff_toInt_le]
    have := sI_0
    omega) (by
    rw [Int32.le_iff_toInt_le]
    have : (7 : Int32).toInt = 7 := by decide
    show x.toInt ≤ (7 : Int32).toInt
    omega)
  rw [g2, cl_nat (by omega)]
  exact ⟨slot_e hl (by omega), by omega⟩
theorem out_b {x k k' : Int32} (hk : k'.toInt + 1 = k.toInt) : (d_Cr_isOutside x k) = d_Mo_beyond x 0 k' := by
  unfold d_Cr_isOutside d_Mo_beyond
  have e : decide (x < k) = decide (x ≤ k') := decide_eq_decide.mpr (le_of_lt_succ hk)
  rw [e]
end ZCK
