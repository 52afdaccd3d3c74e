/-! one lane's data, and what a statement makes of them -/
/-- variables, cells, numbers put, how many, trap, stopped -/
abbrev xLD : Type := (Nat → Int32) × (Nat → Int32) × (Nat → Int32) × Nat × Int32 × Bool
def zev (inp : Nat → Int32) (l : Nat) (D : xLD) : xEv := (D.1, inp, D.2.1, Int32.ofNat l)
def zst (D : xLD) : xLD := (D.1, D.2.1, D.2.2.1, D.2.2.2.1, D.2.2.2.2.1, true)
def ztr (p : Nat) (D : xLD) : xLD := (D.1, D.2.1, D.2.2.1, D.2.2.2.1, Int32.ofNat p + 1, true)
def zpt (x : Int32) (D : xLD) : xLD := (D.1, D.2.1, (fun j => bif Nat.beq j D.2.2.2.1 then x else D.2.2.1 j), D.2.2.2.1 + 1, D.2.2.2.2.1, D.2.2.2.2.2)
def zsv (i : Nat) (x : Int32) (D : xLD) : xLD := ((fun j => bif Nat.beq j i then x else D.1 j), D.2.1, D.2.2.1, D.2.2.2.1, D.2.2.2.2.1, D.2.2.2.2.2)
def zsc (i : Nat) (x : Int32) (D : xLD) : xLD := (D.1, (fun j => bif Nat.beq j i then x else D.2.1 j), D.2.2.1, D.2.2.2.1, D.2.2.2.2.1, D.2.2.2.2.2)
def zac (s : Nat → Int32) (n : Nat) (inp : Nat → Int32) (l p : Nat) (D : xLD) : xLD :=
  bif decide (s p = 82) then zst D
  else bif decide (s p = 79) then (xw s n (zev inp l D) (p + 1)).elim (ztr p D) (fun x => zpt x D)
  else bif decide (s p = 76) then (xw s n (zev inp l D) (p + 2)).elim (ztr p D) (fun i => (xw s n (zev inp l D) ((xp s 3 200 (p + 2) [] true).2 + 2)).elim (ztr p D) (fun x => bif decide (d_Mo_beyond i 0 7 = 0) then zsc i.toNatClampNeg x D else ztr p D))
  else (xw s n (zev inp l D) (p + 2)).elim (ztr p D) (fun x => zsv (s p - 97).toNatClampNeg x D)
/-! the crew of the class -/
def CIN (c : Nat) (inp : Nat → Int32) (v : pd_V) : Prop := ∀ j, j < 16 → inp j = v (c + 1) j
def CRL (c l : Nat) (D : xLD) (v : pd_V) : Prop := (∀ j, j < 8 → D.1 j = v (c + 2) (8 * l + j)) ∧ (∀ j, j < 8 → D.2.1 j = v (c + 3) (8 * l + j)) ∧ (∀ j, j < 20 → j < D.2.2.2.1 → D.2.2.1 j = v (c + 4) (20 * l + j)) ∧ v (c + 5) l = Int32.ofNat D.2.2.2.1 ∧ v (c + 6) l = D.2.2.2.2.1 ∧ zbt (v c 10) l = D.2.2.2.2.2
section ZLA
variable {s : Nat → Int32} {n m w a b c l p q i i1 nb : Nat} {v u t : pd_V} {x y : Int32} {inp : Nat → Int32} {D D' : xLD} {e : xEv}
theorem CE_C (h1 : CIN c inp v) (h2 : CRL c l D v) : CE (zev inp l D) c l v := ⟨h2.1, h1, h2.2.1, rfl⟩
theorem CRL_F (h : CRL c l D v) (f : RKF c v u) : CRL c l D u := ⟨fun j hj => by rw [f.1 (c + 2) (by omega) (by omega)]; exact h.1 j hj, fun j hj => by rw [f.1 (c + 3) (by omega) (by omega)]; exact h.2.1 j hj, fun j hj hc => by rw [f.1 (c + 4) (by omega) (by omega)]; exact h.2.2.1 j hj hc, by rw [f.1 (c + 5) (by omega) (by omega)]; exact h.2.2.2.1, by rw [f.1 (c + 6) (by omega) (by omega)]; exact h.2.2.2.2.1, by rw [f.2 10 (by decide)]; exact h.2.2.2.2.2⟩
theorem CIN_F (h : CIN c inp v) (f : RKF c v u) : CIN c inp u := fun j hj => by rw [f.1 (c + 1) (by omega) (by omega)]; exact h j hj
theorem zbt_l {W : Int32} {i j : Nat} (hi : i < 8) (hj : j < 8) : zbt (W ||| ((1 : Int32) <<< (Int32.ofNat i &&& 31))) j = (zbt W j || decide (i = j)) := by
  have h := zsh_b2 hi hj
  rw [cl_nat (by omega)] at h
  rw [← h]
  unfold zbt zsh
  rw [Int32.toBitVec_or, BitVec.getLsbD_or]
/-- the lane's own data change, the others' stand -/
def OTH (c l : Nat) (v u : pd_V) : Prop := ∀ l' D', l' < 8 → l' ≠ l → CRL c l' D' v → CRL c l' D' u
theorem OTH_F (f : RKF c v u) : OTH c l v u := fun _ _ _ _ h => CRL_F h f
theorem OTH_t (h1 : OTH c l v u) (h2 : OTH c l u t) : OTH c l v t := fun l' D' a b h => h2 l' D' a b (h1 l' D' a b h)
theorem CR_st (hl : l < 8) (h : CRL c l D v) : CRL c l (zst D) (pd_w v c 10 (v c 10 ||| ((1 : Int32) <<< (Int32.ofNat l &&& 31)))) ∧ OTH c l v (pd_w v c 10 (v c 10 ||| ((1 : Int32) <<< (Int32.ofNat l &&& 31)))) := by
  refine ⟨⟨fun j hj => by rw [pd_w_ne (by omega)]; exact h.1 j hj, fun j hj => by rw [pd_w_ne (by omega)]; exact h.2.1 j hj, fun j hj hc => by rw [pd_w_ne (by omega)]; exact h.2.2.1 j hj hc, by rw [pd_w_ne (by omega)]; exact h.2.2.2.1, by rw [pd_w_ne (by omega)]; exact h.2.2.2.2.1, ?_⟩, fun l' D' h1 h2 g => ⟨fun j hj => by rw [pd_w_ne (by omega)]; exact g.1 j hj, fun j hj => by rw [pd_w_ne (by omega)]; exact g.2.1 j hj, fun j hj hc => by rw [pd_w_ne (by omega)]; exact g.2.2.1 j hj hc, by rw [pd_w_ne (by omega)]; exact g.2.2.2.1, by rw [pd_w_ne (by omega)]; exact g.2.2.2.2.1, ?_⟩⟩
  · rw [pd_w_self, zbt_l hl hl, decide_eq_true rfl, Bool.or_true]
    rfl
  · rw [pd_w_self, zbt_l hl h1, decide_eq_false (fun z => h2 z.symm), Bool.or_false]
    exact g.2.2.2.2.2
theorem CR_6 (hl : l < 8) (h : CRL c l D v) : CRL c l (D.1, D.2.1, D.2.2.1, D.2.2.2.1, x, D.2.2.2.2.2) (pd_w v (c + 6) l x) ∧ OTH c l v (pd_w v (c + 6) l x) := by
  refine ⟨⟨fun j hj => by rw [pd_w_ne (by omega)]; exact h.1 j hj, fun j hj => by rw [pd_w_ne (by omega)]; exact h.2.1 j hj, fun j hj hc => by rw [pd_w_ne (by omega)]; exact h.2.2.1 j hj hc, by rw [pd_w_ne (by omega)]; exact h.2.2.2.1, pd_w_self, by rw [pd_w_ne (by omega)]; exact h.2.2.2.2.2⟩, fun l' D' h1 h2 g => ⟨fun j hj => by rw [pd_w_ne (by omega)]; exact g.1 j hj, fun j hj => by rw [pd_w_ne (by omega)]; exact g.2.1 j hj, fun j hj hc => by rw [pd_w_ne (by omega)]; exact g.2.2.1 j hj hc, by rw [pd_w_ne (by omega)]; exact g.2.2.2.1, by rw [pd_w_nk h2]; exact g.2.2.2.2.1, by rw [pd_w_ne (by omega)]; exact g.2.2.2.2.2⟩⟩
theorem CR_2 {j : Nat} (hl : l < 8) (hj : j < 8) (h : CRL c l D v) : CRL c l (zsv j x D) (pd_w v (c + 2) (8 * l + j) x) ∧ OTH c l v (pd_w v (c + 2) (8 * l + j) x) := by
  refine ⟨⟨fun i hi => ?_, fun j hj => by rw [pd_w_ne (by omega)]; exact h.2.1 j hj, fun j hj hc => by rw [pd_w_ne (by omega)]; exact h.2.2.1 j hj hc, by rw [pd_w_ne (by omega)]; exact h.2.2.2.1, by rw [pd_w_ne (by omega)]; exact h.2.2.2.2.1, by rw [pd_w_ne (by omega)]; exact h.2.2.2.2.2⟩, fun l' D' h1 h2 g => ⟨fun i hi => ?_, fun j hj => by rw [pd_w_ne (by omega)]; exact g.2.1 j hj, fun j hj hc => by rw [pd_w_ne (by omega)]; exact g.2.2.1 j hj hc, by rw [pd_w_ne (by omega)]; exact g.2.2.2.1, by rw [pd_w_ne (by omega)]; exact g.2.2.2.2.1, by rw [pd_w_ne (by omega)]; exact g.2.2.2.2.2⟩⟩
  · show (bif Nat.beq i j then x else D.1 i) = _
    by_cases z : i = j
    · rw [z, Nat.beq_refl, pd_w_self]
      rfl
    · rw [beq_f z, pd_w_nk (by omega)]
      exact h.1 i hi
  · rw [pd_w_nk (by omega)]
    exact g.1 i hi
theorem CR_3 {j : Nat} (hl : l < 8) (hj : j < 8) (h : CRL c l D v) : CRL c l (zsc j x D) (pd_w v (c + 3) (8 * l + j) x) ∧ OTH c l v (pd_w v (c + 3) (8 * l + j) x) := by
  refine ⟨⟨fun j hj => by rw [pd_w_ne (by omega)]; exact h.1 j hj, fun i hi => ?_, fun j hj hc => by rw [pd_w_ne (by omega)]; exact h.2.2.1 j hj hc, by rw [pd_w_ne (by omega)]; exact h.2.2.2.1, by rw [pd_w_ne (by omega)]; exact h.2.2.2.2.1, by rw [pd_w_ne (by omega)]; exact h.2.2.2.2.2⟩, fun l' D' h1 h2 g => ⟨fun j hj => by rw [pd_w_ne (by omega)]; exact g.1 j hj, fun i hi => ?_, fun j hj hc => by rw [pd_w_ne (by omega)]; exact g.2.2.1 j hj hc, by rw [pd_w_ne (by omega)]; exact g.2.2.2.1, by rw [pd_w_ne (by omega)]; exact g.2.2.2.2.1, by rw [pd_w_ne (by omega)]; exact g.2.2.2.2.2⟩⟩
  · show (bif Nat.beq i j then x else D.2.1 i) = _
    by_cases z : i = j
    · rw [z, Nat.beq_refl, pd_w_self]
      rfl
    · rw [beq_f z, pd_w_nk (by omega)]
      exact h.2.1 i hi
  · rw [pd_w_nk (by omega)]
    exact g.2.1 i hi
theorem CR_tr (hl : l < 8) (hb : b ≠ c) (h1 : u b 1 = Int32.ofNat p) (h : CRL c l D u) : Pf (d_Cr_trap c b (Int32.ofNat l) u) (fun q => CRL c l (ztr p D) q ∧ OTH c l u q ∧ (∀ d, (d = c + 1 ∨ d = c + 8 ∨ d = c + 9) → q d = u d)) := by
  unfold d_Cr_trap
  rw [zand7 (by omega), cl_nat (by omega), h1]
  refine pf_c (fun _ => pf_some ?_)
  have s1 := CR_6 (x := Int32.ofNat p + (1 : Int32)) hl h
  have s2 := CR_st hl s1.1
  exact ⟨s2.1, OTH_t s1.2 s2.2, fun d hd => by rw [pd_wa (by omega), pd_wa (by omega)]⟩
theorem CR_put (hl : l < 8) (hcn : D.2.2.2.1 < 2000000000) (h : CRL c l D u) : Pf (d_Cr_put c (Int32.ofNat l) x u) (fun q => CRL c l (zpt x D) q ∧ OTH c l u q ∧ (∀ d, (d = c + 1 ∨ d = c + 8 ∨ d = c + 9) → q d = u d)) := by
  have e5 := h.2.2.2.1
  have hi : (Int32.ofNat D.2.2.2.1).toInt = D.2.2.2.1 := Int32.toInt_ofNat_of_lt (by omega)
  unfold d_Cr_put
  rw [zand7 (by omega), cl_nat (by omega), e5]
  have inc : Int32.ofNat D.2.2.2.1 + (1 : Int32) = Int32.ofNat (D.2.2.2.1 + 1) := ofN1 _
  refine pf_c (fun _ => ?_)
  refine pf_d (fun c1 => absurd (Int32.lt_iff_toInt_lt.mp c1) (by rw [hi, sI_0]; omega)) (fun _ => ?_)
  have up : ∀ (t : pd_V), (∀ d, d ≠ c + 4 → t d = u d) → (∀ l' j, l' < 8 → l' ≠ l → j < 20 → t (c + 4) (20 * l' + j) = u (c + 4) (20 * l' + j)) → (∀ j, j < 20 → j < D.2.2.2.1 + 1 → (bif Nat.beq j D.2.2.2.1 then x else D.2.2.1 j) = t (c + 4) (20 * l + j)) → CRL c l (zpt x D) (pd_w t (c + 5) l (Int32.ofNat D.2.2.2.1 + (1 : Int32))) ∧ OTH c l u (pd_w t (c + 5) l (Int32.ofNat D.2.2.2.1 + (1 : Int32))) ∧ (∀ d, (d = c + 1 ∨ d = c + 8 ∨ d = c + 9) → pd_w t (c + 5) l (Int32.ofNat D.2.2.2.1 + (1 : Int32)) d = u d) := by
    intro t f1 f2 f3
    refine ⟨⟨fun j hj => by rw [pd_w_ne (by omega), f1 _ (by omega)]; exact h.1 j hj, fun j hj => by rw [pd_w_ne (by omega), f1 _ (by omega)]; exact h.2.1 j hj, fun j hj hc => by rw [pd_w_ne (by omega)]; exact f3 j hj hc, ?_, by rw [pd_w_ne (by omega), f1 _ (by omega)]; exact h.2.2.2.2.1, by rw [pd_w_ne (by omega), f1 _ (by omega)]; exact h.2.2.2.2.2⟩, fun l' D' h1 h2 g => ⟨fun j hj => by rw [pd_w_ne (by omega), f1 _ (by omega)]; exact g.1 j hj, fun j hj => by rw [pd_w_ne (by omega), f1 _ (by omega)]; exact g.2.1 j hj, fun j hj hc => by rw [pd_w_ne (by omega), f2 l' j h1 h2 hj]; exact g.2.2.1 j hj hc, by rw [pd_w_nk h2, f1 _ (by omega)]; exact g.2.2.2.1, by rw [pd_w_ne (by omega), f1 _ (by omega)]; exact g.2.2.2.2.1, by rw [pd_w_ne (by omega), f1 _ (by omega)]; exact g.2.2.2.2.2⟩, fun d hd => by rw [pd_wa (by omega), f1 _ (by omega)]⟩
    show pd_w t (c + 5) l (Int32.ofNat D.2.2.2.1 + (1 : Int32)) (c + 5) l = Int32.ofNat (D.2.2.2.1 + 1)
    rw [pd_w_self, inc]
  refine pf_d (fun c2 => ?_) (fun c2 => ?_)
  · have c3 := Int32.le_iff_toInt_le.mp c2
    have e20 : (20 : Int32).toInt = 20 := by decide
    rw [hi, e20] at c3
    exact pf_c (fun _ => pf_some (up u (fun _ _ => rfl) (fun _ _ _ _ _ => rfl) (fun j hj hc => by
      rw [beq_f (show j ≠ D.2.2.2.1 by omega)]
      exact h.2.2.1 j hj (by omega))))
  · have c3 : D.2.2.2.1 < 20 := by
      rcases Nat.lt_or_ge D.2.2.2.1 20 with z | z
      · exact z
      · exact absurd (Int32.le_iff_toInt_le.mpr (by
          have e20 : (20 : Int32).toInt = 20 := by decide
          rw [hi, e20]
          omega)) c2
    have ei : (Int32.ofNat l * (20 : Int32) + Int32.ofNat D.2.2.2.1).toNatClampNeg = 20 * l + D.2.2.2.1 := by
      rw [show (20 : Int32) = Int32.ofNat 20 from rfl, ← Int32.ofNat_mul, ← Int32.ofNat_add, cl_nat (by omega)]
      omega
    rw [ei]
    refine pf_c (fun _ => pf_c (fun _ => pf_some (up _ (fun d hd => pd_wa hd) (fun l' j h1 h2 hj => pd_w_nk (by omega)) (fun j hj hc => ?_))))
    by_cases z : j = D.2.2.2.1
    · rw [z, Nat.beq_refl, pd_w_self]
      rfl
    · rw [beq_f z, pd_w_nk (by omega)]
      exact h.2.2.1 j hj (by omega)
end ZLA
