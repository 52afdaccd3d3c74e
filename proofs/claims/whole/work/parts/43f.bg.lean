/-! the class's start -/
def zX0 (m : Nat) : xCS := (0, [], fun x => decide (x < m), fun _ _ => false, fun _ _ => false, fun x => (fun _ => 0, fun _ => 0, fun _ => 0, 0, 0, !(decide (x < m))))
section ZBG
variable {s : Nat → Int32} {n m w p q j e c o h r N i1 a b l : Nat} {k k0 : xK} {X Y X0 : xCS} {inp : Nat → Int32} {v u t : pd_V} {x y : Int32} {DD : Nat → xLD} {f : Nat → Bool} {D : xLD}
theorem zfl_m (hn : n ≤ 1000) : ∀ (F k : Nat) (v : pd_V), k ≤ n → (∀ j, j < k → v b j = 0) → Pf (d_Arr_fill_5 w F b n 0 (Int32.ofNat k) (Int32.ofNat n) v) (fun q => (∀ d, d ≠ b → q d = v d) ∧ ∀ j, j < n → q b j = 0) := by
  intro F
  induction F with
  | zero => intro k v _ _; rw [d_Arr_fill_5]; exact pf_none
  | succ F ih =>
    intro k v hk hv
    rw [d_Arr_fill_5, le_nat hn (by omega)]
    refine pf_d (fun c => pf_some ⟨fun _ _ => rfl, fun j hj => hv j (by omega)⟩) (fun c => ?_)
    refine pf_c (fun _ => ?_)
    rw [ofN1, cl_nat (by omega)]
    refine pf_mono (ih (k + 1) _ (by omega) (fun j hj => ?_)) (fun q hq => ⟨fun d hd => (hq.1 d hd).trans (pd_wa hd), hq.2⟩)
    by_cases e : j = k
    · rw [e, pd_w_self]
    · rw [pd_w_nk e]
      exact hv j (by omega)
theorem zfl_t (hn : n ≤ 1000) : Pf (d_Arr_fill w b n 0 v) (fun q => (∀ d, d ≠ b → q d = v d) ∧ ∀ j, j < n → q b j = 0) := by
  unfold d_Arr_fill
  exact zfl_m hn w 0 v (Nat.zero_le _) (fun j hj => absurd hj (Nat.not_lt_zero _))
theorem stp_a : (List.range 8).all (fun i => (List.range 8).all (fun x => zbt ((255 : Int32) &&& ((((1 : Int32) <<< (Int32.ofNat (i + 1) &&& 31)) - (1 : Int32)) ^^^ (-1 : Int32))) x == !(decide (x < i + 1)))) = true := by decide +kernel
theorem stp_b (hm : 1 ≤ m ∧ m ≤ 8) (hx : l < 8) : zbt ((255 : Int32) &&& ((((1 : Int32) <<< (Int32.ofNat m &&& 31)) - (1 : Int32)) ^^^ (-1 : Int32))) l = !(decide (l < m)) := by
  have h1 := List.all_eq_true.mp stp_a (m - 1) (List.mem_range.mpr (by omega))
  have h2 := eq_of_beq (List.all_eq_true.mp h1 l (List.mem_range.mpr hx))
  rw [show m - 1 + 1 = m by omega] at h2
  exact h2
theorem a255 : (List.range 32).all (fun j => zbt 255 j == decide (j < 8)) = true := by decide +kernel
theorem MK8_255 : MK8 (fun _ => true) 255 := fun j => by
  rw [Bool.and_true]
  by_cases c : j < 32
  · exact eq_of_beq (List.all_eq_true.mp a255 j (List.mem_range.mpr c))
  · rw [decide_eq_false (show ¬ j < 8 by omega)]
    unfold zbt
    exact BitVec.getLsbD_of_ge _ _ (by omega)
/-- the crew is gathered -/
theorem zga_t (hc : crw c) (hm : 1 ≤ m ∧ m ≤ 8) : Pf (d_Cr_gather w c 172 16 (Int32.ofNat m) v) (fun q => CRS c (fun j => v 172 j) (zX0 m).2.2.2.2.2 q ∧ (∀ d, (d < c ∨ c + 10 ≤ d) → q d = v d)) := by
  have pc : c = 174 ∨ c = 187 := hc
  unfold d_Cr_gather
  refine pf_c (fun _ => ?_)
  refine pf_bind (zfl_t (by omega)) (fun q3 h3 => ?_)
  refine pf_bind (zfl_t (by omega)) (fun q4 h4 => ?_)
  refine pf_bind (zfl_t (by omega)) (fun q5 h5 => ?_)
  refine pf_bind (zfl_t (by omega)) (fun q6 h6 => pf_some ?_)
  have mn : (d_Mat_min (Int32.ofNat 16) (16 : Int32)).toNatClampNeg = 16 := by decide
  have z0 : (0 : Int32).toNatClampNeg = 0 := by decide
  have far : ∀ d, d ≠ c + 2 → d ≠ c + 3 → d ≠ c + 5 → d ≠ c + 6 → q6 d = va_up v (c + 1) (va_cpy (v 172) (v (c + 1)) (0 : Int32).toNatClampNeg (0 : Int32).toNatClampNeg (d_Mat_min (Int32.ofNat 16) (16 : Int32)).toNatClampNeg) d := fun d a b e g => by rw [h6.1 d g, h5.1 d e, h4.1 d b, h3.1 d a]
  have e2 : ∀ j, j < 64 → q6 (c + 2) j = 0 := fun j hj => by rw [h6.1 _ (by omega), h5.1 _ (by omega), h4.1 _ (by omega)]; exact h3.2 j hj
  have e3 : ∀ j, j < 64 → q6 (c + 3) j = 0 := fun j hj => by rw [h6.1 _ (by omega), h5.1 _ (by omega)]; exact h4.2 j hj
  have e5 : ∀ j, j < 8 → q6 (c + 5) j = 0 := fun j hj => by rw [h6.1 _ (by omega)]; exact h5.2 j hj
  have e6 : ∀ j, j < 8 → q6 (c + 6) j = 0 := fun j hj => h6.2 j hj
  refine ⟨⟨fun j hj => ?_, fun l hl => ⟨fun j hj => ?_, fun j hj => ?_, fun j hj hc => absurd hc (Nat.not_lt_zero _), ?_, ?_, ?_⟩⟩, fun d hd => ?_⟩
  · rw [pd_w_ne (by omega), far (c + 1) (by omega) (by omega) (by omega) (by omega), z0, mn]
    show v 172 j = va_up v (c + 1) _ (c + 1) j
    rw [va_up_self]
    unfold va_cpy
    rw [if_pos (by omega), show 0 + (j - 0) = j by omega]
  · rw [pd_w_ne (by omega), e2 _ (by omega)]
    rfl
  · rw [pd_w_ne (by omega), e3 _ (by omega)]
    rfl
  · rw [pd_w_ne (by omega), e5 l hl]
    rfl
  · rw [pd_w_ne (by omega), e6 l hl]
    rfl
  · rw [pd_w_self]
    exact stp_b hm hl
  · rw [pd_wa (by omega), far d (by omega) (by omega) (by omega) (by omega)]
    exact va_up_ne _ _ (by omega)
theorem zbg_t (hw : 4294967296 < w) (hn : n ≤ 160) (h0 : ∀ j, n ≤ j → s j = 0) (ha : ker a) (hN : N ≤ 80) (hx : xit s N (0, []) = some (n, [])) (hm : 1 ≤ m ∧ m ≤ 8) (hK : KNL s n N i1 a v) : Pf (d_To_begin w a 172 16 (Int32.ofNat m) v) (fun q => RUNC s n N i1 a (fun j => v 172 j) (zX0 m) 0 q ∧ (∀ d, d < 173 → q d = v d) ∧ q 173 1 = 1) := by
  have pa : a = 3 ∨ a = 88 := ha
  unfold d_To_begin
  refine pf_bind (zga_t crw_174 hm) (fun q1 h1 => ?_)
  obtain ⟨c1, c2⟩ := h1
  refine pf_bind (zfl_t (by omega)) (fun q2 h2 => ?_)
  have e2 : ∀ d, d ≠ 184 → q2 d = q1 d := fun d hd => h2.1 d hd
  have C2 : CRS 174 (fun j => v 172 j) (zX0 m).2.2.2.2.2 q2 := by
    refine ⟨fun j hj => by rw [e2 _ (by decide)]; exact c1.1 j hj, fun l hl => ?_⟩
    have g := c1.2 l hl
    exact ⟨fun j hj => by rw [e2 _ (by decide)]; exact g.1 j hj, fun j hj => by rw [e2 _ (by decide)]; exact g.2.1 j hj, fun j hj hc => by rw [e2 _ (by decide)]; exact g.2.2.1 j hj hc, by rw [e2 _ (by decide)]; exact g.2.2.2.1, by rw [e2 _ (by decide)]; exact g.2.2.2.2.1, by rw [e2 _ (by decide)]; exact g.2.2.2.2.2⟩
  have st : ∀ x y z b d e : Int32, CRS 174 (fun j => v 172 j) (zX0 m).2.2.2.2.2 (pd_w (pd_w (pd_w (pd_w (pd_w (pd_w q2 173 1 x) 173 2 y) 173 3 z) 173 4 b) 173 5 d) 173 6 e) := fun x y z b d e => CRS_3 (CRS_3 (CRS_3 (CRS_3 (CRS_3 (CRS_3 C2 173 (Or.inl rfl)) 173 (Or.inl rfl)) 173 (Or.inl rfl)) 173 (Or.inl rfl)) 173 (Or.inl rfl)) 173 (Or.inl rfl)
  have low : ∀ (x y z b d e : Int32) i, i < 173 → pd_w (pd_w (pd_w (pd_w (pd_w (pd_w q2 173 1 x) 173 2 y) 173 3 z) 173 4 b) 173 5 d) 173 6 e i = v i := fun x y z b d e i hi => by
    rw [pd_wa (by omega), pd_wa (by omega), pd_wa (by omega), pd_wa (by omega), pd_wa (by omega), pd_wa (by omega), e2 i (by omega), c2 i (by omega)]
  have K2 := fun x y z b d e => KNL_q ha hN hK (u := pd_w (pd_w (pd_w (pd_w (pd_w (pd_w q2 173 1 x) 173 2 y) 173 3 z) 173 4 b) 173 5 d) 173 6 e) (fun i hi => low x y z b d e i (by omega))
  have T : TSt s (fun j => v 172 j) 0 (zX0 m) (pd_w (pd_w (pd_w (pd_w (pd_w (pd_w q2 173 1 (1 : Int32)) 173 2 (0 : Int32)) 173 3 ((255 : Int32) &&& ((q2 174 10) ^^^ (-1 : Int32)))) 173 4 (0 : Int32)) 173 5 (0 : Int32)) 173 6 (0 : Int32)) := by
    refine ⟨rfl, pd_w_self, ?_, fun i hi => ?_, fun i hi => absurd hi (Nat.not_lt_zero _), st _ _ _ _ _ _⟩
    · rw [pd_w_nk (by decide), pd_w_nk (by decide), pd_w_nk (by decide), pd_w_self]
      refine MK8_e (MK8_g (DD := (zX0 m).2.2.2.2.2) MK8_255 (fun l hl => (C2.2 l hl).2.2.2.2.2)) (fun x _ => ?_)
      show decide (x < m) = (true && !(!(decide (x < m))))
      cases decide (x < m) <;> rfl
    · rw [pd_w_ne (by decide), pd_w_ne (by decide), pd_w_ne (by decide), pd_w_ne (by decide), pd_w_ne (by decide), pd_w_ne (by decide), h2.2 i hi]
      exact MK8_0
  obtain ⟨mv, -⟩ := zmo_t (w := w) hn h0 ha hN hx (K2 _ _ _ _ _ _) T
  refine pf_bind mv (fun q3 h3 => pf_some ?_)
  obtain ⟨m1, ⟨m2, m3, m4⟩, m5⟩ := h3
  refine ⟨⟨KNL_q ha hN (K2 _ _ _ _ _ _) (fun d hd => m1 d (by omega)), ?_, ?_, ?_⟩, fun d hd => (m1 d hd).trans (low _ _ _ _ _ _ d hd), ?_⟩
  · rw [m3, pd_w_nk (by decide), pd_w_nk (by decide), pd_w_self]
    rfl
  · rw [m4, pd_w_nk (by decide), pd_w_self]
    rfl
  · rcases m5 with m5 | ⟨y1, y2, y3⟩
    · exact Or.inl m5
    · exact Or.inr ⟨y1, by rw [y2, pd_w_nk (by decide), pd_w_nk (by decide), pd_w_nk (by decide), pd_w_nk (by decide), pd_w_self], y3⟩
  · rw [m2, pd_w_nk (by decide), pd_w_nk (by decide), pd_w_nk (by decide), pd_w_nk (by decide), pd_w_nk (by decide), pd_w_self]
end ZBG
