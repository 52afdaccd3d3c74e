/-! what holds between the calls -/
def RESL (s : Nat → Int32) (n : Nat) (inp : Nat → Int32) (X0 : xCS) (FU : Nat) (q : pd_V) : Prop := (∀ l, l < 8 → MRL l ((zT s n inp X0 FU).1.2.2.2.2.2 l) q) ∧ q 198 23 = (zT s n inp X0 FU).2.1 ∧ q 198 24 = (zT s n inp X0 FU).2.2 ∧ ((n ≤ (zT s n inp X0 FU).1.1 ∧ q 198 26 = 0) ∨ ((zT s n inp X0 FU).1.1 < n ∧ MK8 (zT s n inp X0 FU).1.2.2.1 (q 198 26)))
/-- the run in step, in both -/
def RNT (s : Nat → Int32) (n N i1 : Nat) (v : pd_V) : Prop := ∃ (m : Nat) (inp : Nat → Int32) (FU : Nat), (1 ≤ m ∧ m ≤ 8) ∧ v 198 21 = Int32.ofNat m ∧ v 198 22 = Int32.ofNat FU ∧ FU ≤ 900000 ∧ RUNC s n N i1 (kerOf (v 0 1)) inp (zX0 m) FU v ∧ RESL s n inp (zX0 m) FU v ∧ ((zT s n inp (zX0 m) FU).1.1 < n → ∀ j, j < 16 → inp j = v 203 j)
/-- the kernel, in both -/
def KNT (v : pd_V) : Prop := ∃ (s : Nat → Int32) (n N i1 : Nat), (n ≤ 160 ∧ (∀ j, n ≤ j → s j = 0) ∧ N ≤ 80 ∧ xit s N (0, []) = some (n, []) ∧ i1 ≤ 160) ∧ TX n s v ∧ KNL s n N i1 (kerOf (v 0 1)) v ∧ zL s N (v (kerOf (v 0 1)) 5) = (v (kerOf (v 0 1)) 5, -1) ∧ (v 198 20 ≠ 0 → RNT s n N i1 v)
def K7 (v : pd_V) : Prop := (∀ j, j < 16 → v 172 j = v 203 j) ∧ (∃ m, (1 ≤ m ∧ m ≤ 8) ∧ v 0 5 = Int32.ofNat m ∧ v 198 12 = Int32.ofNat m) ∧ v 173 1 = v 198 20 ∧ v 186 1 = v 198 27 ∧ (v 198 20 = 0 → v 198 26 = 0) ∧ (v 198 5 ≠ 0 → KNT v) ∧ (v 198 27 ≠ 0 → ∃ Y : Nat → xAS, ∀ l, l < 8 → CRL 187 l (Y l).2.2 v ∧ MRL (8 + l) (zst (Y l).2.2) v)
section YK7
variable {s : Nat → Int32} {n m w N i1 a FU i : Nat} {inp : Nat → Int32} {v u q : pd_V} {X0 : xCS} {DD : Nat → xLD} {x : Int32}
theorem KNL_r (hN : N ≤ 80) (h : KNL s n N i1 a v) (e : ∀ d, a ≤ d → d < a + 84 → u d = v d) : KNL s n N i1 a u :=
  ⟨by rw [e a (by omega) (by omega)]; exact h.1, fun i hi => ZJ_f (h.2.1 i hi) (Nat.le_refl _) (fun f _ _ => by rw [e _ (by omega) (by omega)]) (fun t _ => by rw [e _ (by omega) (by omega), e _ (by omega) (by omega)]; exact ⟨rfl, rfl⟩), ZN_t h.2.2 (fun r hr => e _ (by omega) (by omega))⟩
theorem CRS_e (h : CRS 174 inp DD v) (e : ∀ d, (174 ≤ d ∧ d ≤ 180) → u d = v d) : CRS 174 inp DD u := ⟨fun j hj => by rw [e 175 (by omega)]; exact h.1 j hj, fun l hl => CRL_e (h.2 l hl) (fun d hd => e d (by omega)) (e 174 (by omega))⟩
theorem RUNC_e (hN : N ≤ 80) (h : RUNC s n N i1 a inp X0 i v) (ek : ∀ d, a ≤ d → d < a + 84 → u d = v d) (e : ∀ d, (173 ≤ d ∧ d ≤ 185) → u d = v d) : RUNC s n N i1 a inp X0 i u := by
  obtain ⟨h1, h2, h3, h4⟩ := h
  refine ⟨KNL_r hN h1 ek, by rw [e 173 (by omega)]; exact h2, by rw [e 173 (by omega)]; exact h3, ?_⟩
  rcases h4 with ⟨a1, a2, a3, a4⟩ | ⟨a1, a2, j, t1, t2, t3, t4, t5, t6⟩
  · exact Or.inl ⟨a1, by rw [e 173 (by omega)]; exact a2, by rw [e 173 (by omega)]; exact a3, CRS_e a4 (fun d hd => e d (by omega))⟩
  · exact Or.inr ⟨a1, by rw [e 173 (by omega)]; exact a2, j, t1, by rw [e 173 (by omega)]; exact t2, by rw [e 173 (by omega)]; exact t3, fun i hi => by rw [e 184 (by omega)]; exact t4 i hi, fun i hi => by rw [e 185 (by omega)]; exact t5 i hi, CRS_e t6 (fun d hd => e d (by omega))⟩
theorem RESL_e (h : RESL s n inp X0 FU v) (e : ∀ d, (204 ≤ d ∧ d ≤ 209) → u d = v d) (ek : ∀ k, (23 ≤ k ∧ k ≤ 26) → u 198 k = v 198 k) : RESL s n inp X0 FU u := by
  obtain ⟨h1, h2, h3, h4⟩ := h
  refine ⟨fun l hl => MRL_q (h1 l hl) e, by rw [ek 23 (by omega)]; exact h2, by rw [ek 24 (by omega)]; exact h3, ?_⟩
  rw [ek 26 (by omega)]
  exact h4
theorem RESL_R (h : RES s n inp X0 FU v) : RESL s n inp X0 FU v := by
  obtain ⟨⟨-, h1⟩, h2, h3, h4⟩ := h
  refine ⟨fun l hl => by have := h1 l hl; rw [Nat.zero_add] at this; exact this, h2, h3, ?_⟩
  rcases h4 with ⟨a, -, b⟩ | ⟨a, -, b⟩
  · exact Or.inl ⟨a, b⟩
  · exact Or.inr ⟨a, b⟩
/-- what they look at -/
theorem K7_e (h : K7 v) (e : ∀ d, ((172 ≤ d ∧ d < 197) ∨ d = 200 ∨ (203 ≤ d ∧ d ≤ 209)) → u d = v d) (ek : ∀ d, kerOf (v 0 1) ≤ d → d < kerOf (v 0 1) + 84 → u d = v d) (e1 : u 0 1 = v 0 1) (e5 : u 0 5 = v 0 5) (em : ∀ k, (k = 4 ∨ k = 5 ∨ k = 12 ∨ (20 ≤ k ∧ k ≤ 27)) → u 198 k = v 198 k) : K7 u := by
  obtain ⟨h1, ⟨m, h2, h3, h4⟩, h5, h6, h7, h8, h9⟩ := h
  refine ⟨fun j hj => ?_, ⟨m, h2, by rw [e5]; exact h3, by rw [em 12 (by omega)]; exact h4⟩, ?_, ?_, fun c => ?_, fun c => ?_, fun c => ?_⟩
  · rw [e 172 (by omega), e 203 (by omega)]; exact h1 j hj
  · rw [e 173 (by omega), em 20 (by omega)]; exact h5
  · rw [e 186 (by omega), em 27 (by omega)]; exact h6
  · rw [em 20 (by omega)] at c
    rw [em 26 (by omega)]
    exact h7 c
  · rw [em 5 (by omega)] at c
    obtain ⟨s, n, N, i1, ⟨g1, g2, g3, g4, g5⟩, g6, g7, g8, g9⟩ := h8 c
    refine ⟨s, n, N, i1, ⟨g1, g2, g3, g4, g5⟩, ⟨by rw [em 4 (by omega)]; exact g6.1, fun j hj => by rw [e 200 (by omega)]; exact g6.2 j hj⟩, ?_, ?_, fun c => ?_⟩
    · rw [e1]
      exact KNL_r g3 g7 ek
    · rw [e1, ek _ (Nat.le_refl _) (by omega)]
      exact g8
    · rw [em 20 (by omega)] at c
      obtain ⟨m, inp, FU, r1, r2, r3, r4, r5, r6, r7⟩ := g9 c
      refine ⟨m, inp, FU, r1, by rw [em 21 (by omega)]; exact r2, by rw [em 22 (by omega)]; exact r3, r4, ?_, RESL_e r6 (fun d hd => e d (by omega)) (fun k hk => em k (by omega)), fun z j hj => by rw [e 203 (by omega)]; exact r7 z j hj⟩
      rw [e1]
      exact RUNC_e g3 r5 ek (fun d hd => e d (by omega))
  · rw [em 27 (by omega)] at c
    obtain ⟨Y, hY⟩ := h9 c
    exact ⟨Y, fun l hl => ⟨CRL_e (hY l hl).1 (fun d hd => e d (by omega)) (e 187 (by omega)), MRL_q (hY l hl).2 (fun d hd => e d (by omega))⟩⟩
theorem K7_0 (h : K7 v) : K7 (pd_w v 198 0 x) := K7_e h (fun d hd => pd_wa (by omega)) (fun d h1 h2 => by
  have := ker_of (v 0 1)
  have : kerOf (v 0 1) = 3 ∨ kerOf (v 0 1) = 88 := this
  exact pd_wa (by omega)) (pd_w_ne (by decide)) (pd_w_ne (by decide)) (fun k hk => pd_w_nk (by omega))
theorem K7_cl (h : K7 v) : K7 (pd_w (pd_w (pd_w v 1 1 (0 : Int32)) 198 0 (0 : Int32)) 198 2 (0 : Int32)) := by
  have pk : kerOf (v 0 1) = 3 ∨ kerOf (v 0 1) = 88 := ker_of (v 0 1)
  exact K7_e h (fun d hd => by rw [pd_wa (by omega), pd_wa (by omega), pd_wa (by omega)]) (fun d h1 h2 => by rw [pd_wa (by omega), pd_wa (by omega), pd_wa (by omega)]) (by rw [pd_w_ne (by decide), pd_w_ne (by decide), pd_w_ne (by decide)]) (by rw [pd_w_ne (by decide), pd_w_ne (by decide), pd_w_ne (by decide)]) (fun k hk => by rw [pd_w_nk (by omega), pd_w_nk (by omega), pd_w_ne (by decide)])
end YK7
