/-! every script of at most 2048 ints -/
def okW (b : Int) (r : (pd_V × (Nat → Int64) × Nat) ⊕ Int32) : Prop := ∃ q, r = .inl q ∧ (J b q.1 ∧ K5 q.1 ∧ K7 q.1) ∧ q.2.2 ≤ 1
section WST
variable {w : Nat} {v : pd_V} {b b' : Int} {g : Nat → Int64}
theorem in_big {a n : Nat} (ha : a < n) (hn : n ≤ 100000) : pm_in (Int32.ofNat a) n = true := by
  have e : (Int32.ofNat a).toInt = a := Int32.toInt_ofNat_of_lt (by omega)
  exact pin (by omega)
/-- calls that answer nothing -/
theorem wv {H : Option (Int32 × pd_V × (Nat → Int64) × Nat)} {M : pd_V → Option pd_V} (h : CV b v H M) : Sf (H.bind fun q => (M q.2.1).bind fun r => bif decide ((d_Mo_thrown r) = q.1) then some (Sum.inl (r, q.2.2.1, q.2.2.2)) else some (Sum.inr (0 : Int32))) (okW b) :=
  sf_bind h (fun q hq => sf_bind hq.2 (fun r hr => sf_d (fun _ => sf_some ⟨_, rfl, hr.1, hq.1⟩) (fun z => absurd hr.2 z)))
/-- calls that answer a number -/
theorem wa {H : Option (Int32 × pd_V × (Nat → Int64) × Nat)} {M : pd_V → Option (Int32 × pd_V)} (h : CA b v H M) : Sf (H.bind fun q => (M q.2.1).bind fun r => bif decide ((d_Mo_thrown r.2) = q.1) then (bif !(decide (q.1 = 0)) then some (Sum.inl (r.2, q.2.2.1, q.2.2.2)) else bif decide ((lg_cmp (q.2.2.1 0) (r.1.toInt64)) = 0) then some (Sum.inl (r.2, q.2.2.1, q.2.2.2)) else some (Sum.inr (0 : Int32))) else some (Sum.inr (0 : Int32))) (okW b) :=
  sf_bind h (fun q hq => sf_bind hq.2 (fun r hr => sf_d (fun _ => sf_n (fun _ => sf_some ⟨_, rfl, hr.1, hq.1⟩) (fun z => sf_d (fun _ => sf_some ⟨_, rfl, hr.1, hq.1⟩) (fun z2 => absurd (hr.2.2 z) z2))) (fun z => absurd hr.2.1 z)))
theorem CV_up {H : Option (Int32 × pd_V × (Nat → Int64) × Nat)} {M : pd_V → Option pd_V} (h : CV b v H M) : CV (b + 500) v H M := sf_mono h (fun q hq => ⟨hq.1, sf_mono hq.2 (fun r hr => ⟨⟨J_up hr.1.1, hr.1.2⟩, hr.2⟩)⟩)
theorem CA_up {H : Option (Int32 × pd_V × (Nat → Int64) × Nat)} {M : pd_V → Option (Int32 × pd_V)} (h : CA b v H M) : CA (b + 500) v H M := sf_mono h (fun q hq => ⟨hq.1, sf_mono hq.2 (fun r hr => ⟨⟨J_up hr.1.1, hr.1.2⟩, hr.2⟩)⟩)
theorem CA_Q {H : Option (Int32 × pd_V × (Nat → Int64) × Nat)} {M : pd_V → Option (Int32 × pd_V)} (hJ : J b v) (hK : K5 v) (h7 : K7 v) (h : QA v g H (M v)) : CA (b + 500) v H M := by
  obtain ⟨k, n, g', y, e1, e2, e3, e4⟩ := h
  refine ⟨_, e1, e3, _, e2, ⟨J_up (J_0 hJ), K5_0 hK, K7_0 h7⟩, show pd_w v 198 0 k 198 0 = k from pd_w_self, e4⟩
set_option maxRecDepth 100000 in
set_option maxHeartbeats 4000000 in
theorem whole_st {xs : Nat → Int32} {L c : Nat} (hw : 4294967296 < w) (hb : 0 ≤ b ∧ b + 500 ≤ 900000) (hL : L ≤ 2048) (hc : 4 * c + 4 ≤ L) (hJ : J b v) (hK : K5 v) (h7 : K7 v) : Sf (d_law w xs L (Int32.ofNat (4 * c)) v g) (okW (b + 500)) := by
  have e0 : decide (Int32.ofNat L - (4 : Int32) < Int32.ofNat (4 * c)) = false := by
    have a1 : (Int32.ofNat L).toInt = L := Int32.toInt_ofNat_of_lt (by omega)
    have a2 : (Int32.ofNat (4 * c)).toInt = ((4 * c : Nat) : Int) := Int32.toInt_ofNat_of_lt (by omega)
    have a4 : (4 : Int32).toInt = 4 := by decide
    refine decide_eq_false (fun q => ?_)
    have q2 := Int32.lt_iff_toInt_lt.mp q
    rw [sI_sub (by rw [a1, a4]; omega), a1, a2, a4] at q2
    omega
  have e1 : pm_in (Int32.ofNat (4 * c)) L = true := in_big (by omega) (by omega)
  have e2 : pm_in (Int32.ofNat (4 * c) + (1 : Int32)) L = true := by rw [ofN1]; exact in_big (by omega) (by omega)
  have e3 : pm_in (Int32.ofNat (4 * c) + (2 : Int32)) L = true := by rw [ofN2]; exact in_big (by omega) (by omega)
  have e4 : pm_in (Int32.ofNat (4 * c) + (3 : Int32)) L = true := by rw [ofN3]; exact in_big (by omega) (by omega)
  unfold d_law
  simp only [e0, e1, e2, e3, e4, cond_true, cond_false]
  generalize xs (Int32.ofNat (4 * c)).toNatClampNeg = a0
  generalize xs (Int32.ofNat (4 * c) + (1 : Int32)).toNatClampNeg = a1
  generalize xs (Int32.ofNat (4 * c) + (2 : Int32)).toNatClampNeg = a2
  generalize xs (Int32.ofNat (4 * c) + (3 : Int32)).toNatClampNeg = a3
  refine sf_d (fun _ => ?_) (fun _ => ?_)
  · obtain ⟨q7, q11, h1, h2, h3, h4, h5, h6⟩ := yty_t (g := g) (x := ((a1.toInt64 <<< ((32 : Int32).toInt64 &&& 63)) ||| (a2.toInt64 &&& (4294967295 : Int64)))) (y := a3) hw hJ hK h7
    rw [h1]
    refine sf_sb ?_
    rw [h2]
    refine sf_sb ?_
    have fin : okW (b + 500) (Sum.inl (q11.2, q7.2.2.1, q7.2.2.2)) := ⟨_, rfl, ⟨J_up h5.1, h5.2⟩, h6⟩
    exact sf_d (fun _ => sf_n (fun _ => sf_some fin) (fun z => sf_d (fun _ => sf_some fin) (fun z2 => absurd (h4 z) z2))) (fun z => absurd h3 z)
  refine sf_d (fun _ => ?_) (fun _ => ?_)
  · exact ⟨_, rfl, (pd_w (pd_w (pd_w v 1 1 (0 : Int32)) 198 0 (0 : Int32)) 198 2 (0 : Int32), g, 0), rfl, ⟨J_up (J_cl hJ), K5_cl hK, K7_cl h7⟩, Nat.zero_le _⟩
  refine sf_d (fun _ => ?_) (fun _ => ?_)
  · refine sf_bind (yco_t hw hJ hK h7) (fun q20 h20 => ?_)
    refine sf_bind h20 (fun q21 h21 => ?_)
    exact sf_d (fun _ => sf_some ⟨_, rfl, ⟨J_up h21.1.1, h21.1.2⟩, Nat.zero_le _⟩) (fun z => absurd h21.2 z)
  refine sf_d (fun _ => ?_) (fun _ => ?_)
  · have e24 : d_Mo_place v = some (v 198 7, pd_w v 198 0 (0 : Int32)) := rfl
    rw [e24]
    refine sf_sb ?_
    exact sf_d (fun _ => sf_some ⟨_, rfl, ⟨J_up (J_0 hJ), K5_0 hK, K7_0 h7⟩, Nat.zero_le _⟩) (fun z => absurd (show v 0 3 = v 198 7 from hK.2.1) z)
  refine sf_d (fun _ => ?_) (fun _ => ?_)
  · obtain ⟨k, n, g', y, h1, h2, h3, h4⟩ := zva_t (a1 := a1) (g := g) hK
    rw [h1]
    refine sf_sb ?_
    show Sf ((d_Mo_varies a1 v).bind _) _
    rw [h2]
    refine sf_sb ?_
    have fin : okW (b + 500) (Sum.inl (pd_w v 198 0 k, g', n)) := ⟨_, rfl, ⟨J_up (J_0 hJ), K5_0 hK, K7_0 h7⟩, h3⟩
    have hc : k = 0 → decide (y = 0) = true → lg_cmp (g' 0) (0 : Int64) = 0 := fun z hy => by
      rw [h4 z, hy]
      decide
    have hd : k = 0 → decide (y = 0) = false → lg_cmp (g' 0) (1 : Int64) = 0 := fun z hy => by
      rw [h4 z, hy]
      decide
    refine sf_d (fun _ => ?_) (fun z => absurd (show pd_w v 198 0 k 198 0 = k from pd_w_self) z)
    refine sf_n (fun _ => sf_some fin) (fun z => ?_)
    refine sf_d (fun hy => ?_) (fun hy => ?_)
    · exact sf_d (fun _ => sf_some fin) (fun z2 => absurd (hc z (decide_eq_true hy)) z2)
    · exact sf_d (fun _ => sf_some fin) (fun z2 => absurd (hd z (decide_eq_false hy)) z2)
  refine sf_d (fun _ => ?_) (fun _ => ?_)
  · exact wv (M := fun u => d_Mo_input a1 a2 u) (CV_up (yin_t hJ hK h7))
  refine sf_d (fun _ => ?_) (fun _ => ?_)
  · exact wv (M := fun u => d_Mo_lanes a1 u) (CV_up (ylanes_t hJ hK h7))
  refine sf_d (fun _ => ?_) (fun _ => ?_)
  · exact wv (M := fun u => d_Mo_start w u) (CV_up (ystart_t hw (by omega) hJ hK h7))
  refine sf_d (fun _ => ?_) (fun _ => ?_)
  · exact wa (M := fun u => d_Mo_run w a1 u) (yrun_t hw hb hJ hK h7)
  refine sf_d (fun _ => ?_) (fun _ => ?_)
  · have e24 : d_Mo_mask v = some (v 198 26, pd_w v 198 0 (0 : Int32)) := rfl
    rw [e24]
    refine sf_sb ?_
    exact sf_d (fun _ => sf_some ⟨_, rfl, ⟨J_up (J_0 hJ), K5_0 hK, K7_0 h7⟩, Nat.zero_le _⟩) (fun z => absurd (ymask_t hJ h7) z)
  refine sf_d (fun _ => ?_) (fun _ => ?_)
  · exact wa (M := fun u => d_Mo_spent a1 u) (CA_Q hJ hK h7 (yspent_t hJ h7))
  refine sf_d (fun _ => ?_) (fun _ => ?_)
  · exact wa (M := fun u => d_Mo_alone w a1 u) (CA_up (yalone_t hw hJ hK h7))
  refine sf_d (fun _ => ?_) (fun _ => ?_)
  · refine sf_d (fun z => ?_) (fun z => ?_)
    · simp only [decide_eq_true z, cond_true]
      exact wa (M := fun u => d_Mo_lane 0 a2 a3 u) (CA_Q hJ hK h7 (ylane_t hJ h7 (Or.inl rfl)))
    · simp only [decide_eq_false z, cond_false]
      exact wa (M := fun u => d_Mo_lane 1 a2 a3 u) (CA_Q hJ hK h7 (ylane_t hJ h7 (Or.inr rfl)))
  refine sf_d (fun _ => ?_) (fun _ => ?_)
  · refine sf_d (fun z => ?_) (fun z => ?_)
    · simp only [decide_eq_true z, cond_true]
      exact wa (M := fun u => d_Mo_out 0 a2 a3 u) (CA_Q hJ hK h7 (yout_t hJ h7 (Or.inl rfl)))
    · simp only [decide_eq_false z, cond_false]
      exact wa (M := fun u => d_Mo_out 1 a2 a3 u) (CA_Q hJ hK h7 (yout_t hJ h7 (Or.inr rfl)))
  refine sf_d (fun _ => ?_) (fun _ => ?_)
  · refine sf_d (fun z => ?_) (fun z => ?_)
    · simp only [decide_eq_true z, cond_true]
      exact wa (M := fun u => d_Mo_cell 0 a2 a3 u) (CA_Q hJ hK h7 (ycell_t hJ h7 (Or.inl rfl)))
    · simp only [decide_eq_false z, cond_false]
      exact wa (M := fun u => d_Mo_cell 1 a2 a3 u) (CA_Q hJ hK h7 (ycell_t hJ h7 (Or.inr rfl)))
  exact sf_some ⟨_, rfl, ⟨J_up hJ, hK, h7⟩, Nat.zero_le _⟩
def whole_w : Nat := 5000000000
theorem whole_hw : 4294967296 < whole_w := by
  unfold whole_w
  omega
theorem whole_loop {xs : Nat → Int32} {L : Nat} (hL : L ≤ 2048) : ∀ (r c kc ks : Nat) (v : pd_V) (g : Nat → Int64), L < 4 * c + 4 * r + 4 → c + r ≤ 512 → J (500 * (c : Int)) v ∧ K5 v ∧ K7 v → ∃ kc' ks' g' v', kc' ≤ kc + r ∧ ks' ≤ ks + 6 * r ∧ ∀ y5 y6 : Option Value, pm_ev (pj_P xs L) 40 0 (23, [some (.ref 1000000), some (.ref 0), some (.ref 198), some (.ref 222), some (.int (Int32.ofNat (4 * c))), y5, y6], [], (223, kc, ks, pd_H g v)) (.inl (some (.int 1)), (223, kc', ks', pd_H g' v')) := by
  intro r
  have out : ∀ (c kc ks : Nat) (v : pd_V) (g : Nat → Int64) (y5 y6 : Option Value), c ≤ 512 → L < 4 * c + 4 → pm_ev (pj_P xs L) 40 0 (23, [some (.ref 1000000), some (.ref 0), some (.ref 198), some (.ref 222), some (.int (Int32.ofNat (4 * c))), y5, y6], [], (223, kc, ks, pd_H g v)) (.inl (some (.int 1)), (223, kc, ks, pd_H g v)) := by
    intro c kc ks v g y5 y6 hc hx
    refine law_exit ?_
    have a1 : (Int32.ofNat L).toInt = L := Int32.toInt_ofNat_of_lt (by omega)
    have a2 : (Int32.ofNat (4 * c)).toInt = ((4 * c : Nat) : Int) := Int32.toInt_ofNat_of_lt (by omega)
    have a4 : (4 : Int32).toInt = 4 := by decide
    refine decide_eq_true (Int32.lt_iff_toInt_lt.mpr ?_)
    rw [sI_sub (by rw [a1, a4]; omega), a1, a2, a4]
    omega
  induction r with
  | zero =>
    intro c kc ks v g hx hc hJ
    exact ⟨kc, ks, g, v, by omega, by omega, fun y5 y6 => out c kc ks v g y5 y6 (by omega) (by omega)⟩
  | succ r ih =>
    intro c kc ks v g hx hc hJ
    by_cases h4 : 4 * c + 4 ≤ L
    · obtain ⟨r0, e, q, er, j1, j2⟩ := whole_st (xs := xs) (g := g) whole_hw (b := 500 * (c : Int)) (by omega) hL h4 hJ.1 hJ.2.1 hJ.2.2
      subst er
      have j1' : J (500 * ((c + 1 : Nat) : Int)) q.1 := by
        rw [show 500 * ((c + 1 : Nat) : Int) = 500 * (c : Int) + 500 by omega]
        exact j1.1
      obtain ⟨kc', ks', g', v', b1, b2, b3⟩ := ih (c + 1) (kc + q.2.2) (ks + 6 * q.2.2) q.1 q.2.1 (by omega) (by omega) ⟨j1', j1.2⟩
      have ei : Int32.ofNat (4 * c) + (4 : Int32) = Int32.ofNat (4 * (c + 1)) := by
        rw [show 4 * (c + 1) = 4 * c + 4 by omega, Int32.ofNat_add]
        rfl
      exact ⟨kc', ks', g', v', by omega, by omega, fun y5 y6 => s_law (d := 17) e (fun y5 y6 => by rw [ei]; exact b3 y5 y6)⟩
    · exact ⟨kc, ks, g, v, by omega, by omega, fun y5 y6 => out c kc ks v g y5 y6 (by omega) (by omega)⟩
set_option maxRecDepth 100000 in
theorem whole_F0 : pd_0 1 1 = 0 ∧ pd_0 1 5 = 0 ∧ pd_0 3 3 = 0 ∧ pd_0 3 4 = 0 ∧ pd_0 88 3 = 0 ∧ pd_0 88 4 = 0 ∧ pd_0 198 2 = 0 ∧ pd_0 198 5 = 0 ∧ pd_0 198 20 = 0 ∧ pd_0 198 22 = 0 ∧ (List.range 8).all (fun j => decide (pd_0 201 j = 0)) = true ∧ (List.range 8).all (fun j => decide (pd_0 202 j = 0)) = true := by decide +kernel
theorem whole_J0 : J 0 pd_0 := by
  have hF := whole_F0
  generalize pd_0 = v at hF
  obtain ⟨f1, f2, f3, f4, f5, f6, f7, f8, f9, f10, f11, f12⟩ := hF
  simp only [List.all_eq_true, List.mem_range, decide_eq_true_eq] at f11 f12
  have z := sI_0
  refine ⟨?_, ⟨⟨0, by omega, f7⟩, fun j hj => Or.inl (f11 j hj), fun j hj => Or.inl (f12 j hj), fun c => absurd f8 c, fun c => absurd f9 c, ?_⟩, f1.trans f7.symm⟩
  · unfold KO
    rw [f1, f2, f3, f4, f5, f6, z]
    omega
  · rw [f10, z]
    omega
set_option maxRecDepth 100000 in
theorem whole_G0 : pd_0 198 2 = 0 ∧ pd_0 0 3 = pd_0 198 7 ∧ kerOf (pd_0 0 1) ≠ kerOf (pd_0 1 3) ∧ pd_0 0 2 = pd_0 198 5 ∧ pd_0 198 5 = 0 := by decide +kernel
theorem whole_K0 : K5 pd_0 := by
  have hF := whole_G0
  generalize pd_0 = v at hF
  obtain ⟨f1, f2, f3, f4, f5⟩ := hF
  refine ⟨fun n hn hq j hj => ?_, f2, f3, f4, fun c => absurd f5 c⟩
  rw [f1] at hq
  have h6 : decide (Int32.ofNat 0 = Int32.ofNat n) = decide (0 = n) := eq_nat (by omega) (by omega)
  rw [decide_eq_true (show Int32.ofNat 0 = Int32.ofNat n from hq)] at h6
  have h7 := of_decide_eq_true h6.symm
  omega
set_option maxRecDepth 100000 in
theorem whole_H0 : (List.range 16).all (fun j => decide (pd_0 172 j = pd_0 203 j)) = true ∧ pd_0 0 5 = Int32.ofNat 8 ∧ pd_0 198 12 = Int32.ofNat 8 ∧ pd_0 173 1 = pd_0 198 20 ∧ pd_0 186 1 = pd_0 198 27 ∧ pd_0 198 26 = 0 ∧ pd_0 198 5 = 0 ∧ pd_0 198 27 = 0 := by decide +kernel
theorem whole_M0 : K7 pd_0 := by
  have hF := whole_H0
  generalize pd_0 = v at hF
  obtain ⟨f1, f2, f3, f4, f5, f6, f7, f8⟩ := hF
  simp only [List.all_eq_true, List.mem_range, decide_eq_true_eq] at f1
  exact ⟨f1, ⟨8, by omega, f2, f3⟩, f4, f5, fun _ => f6, fun c => absurd f7 c, fun c => absurd f8 c⟩
theorem whole_run {xs : Nat → Int32} {L : Nat} (hL : L ≤ 2048) : ∃ h', pm_ev (pj_P xs L) 40 0 (0, [some (.ref 1000000), none, none, none, none, none, none], [], (0, 0, 0, fun _ => pm_dead)) (.inl (some (.int 1)), h') ∧ h'.2.1 ≤ 601024 ∧ h'.2.2.1 ≤ 7293034 := by
  obtain ⟨kc', ks', g', v', b1, b2, b3⟩ := whole_loop (xs := xs) hL 512 0 223 4639 pd_0 pd_g (by omega) (by omega) ⟨whole_J0, whole_K0, whole_M0⟩
  refine ⟨(223, kc', ks', pd_H g' v'), law_start (b3 none none), ?_, ?_⟩
  · show kc' ≤ 601024
    omega
  · show ks' ≤ 7293034
    omega
end WST
