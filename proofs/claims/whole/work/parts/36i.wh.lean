/-! a statement's expressions, as the class keeps them -/
section WHS
variable {s : Nat → Int32} {n m w a b i0 p j : Nat} {v u : pd_V} {x : Int32}
/-- the items of one expression, and what its row says of them -/
def WI (s : Nat → Int32) (n a i p q : Nat) (it : List (Int32 × Int32)) (v : pd_V) : Prop := (∀ t y, it[t]? = some y → v (a + 2) (i + t) = y.1 ∧ v (a + 3) (i + t) = y.2) ∧ it.length ≤ q - p ∧ ∃ ev, EX s n 4 p q it ev
theorem EX_4 {D : Nat} {it : List (Int32 × Int32)} {ev : xEv → Option Int32} {q : Nat} (h : EX s n D p q it ev) (hD : D ≤ 4) : EX s n 4 p q it ev := ⟨h.1, h.2.1, fun e st B hB => h.2.2 e st B (by omega)⟩
theorem kerOf_1 (ha : ker a) (h : kerOf (v 1 3) = a) (e : ∀ k, k ≠ 2 → k ≠ 6 → u 1 k = v 1 k) : kerOf (u 1 3) = a := by rw [e 3 (by decide) (by decide)]; exact h
theorem TP_b {k : List Int32} {f : Nat} (ha : ker a) (hb : b = a + 4 + j ∧ j < 80) (h : TP s n m k a i0 p v) : TP s n m k a i0 p (pd_w v b f x) := by
  have pa : a = 3 ∨ a = 88 := ha
  obtain ⟨h1, h2, h3, h4, h5, h6, h7⟩ := h
  refine ⟨⟨by rw [pd_w_ne (by omega)]; exact h1.1, fun i hi => by rw [pd_w_ne (by omega)]; exact h1.2 i hi⟩, ?_, h3, by rw [pd_w_ne (by omega)]; exact h4, by rw [pd_w_ne (by omega)]; exact h5, h6, h7⟩
  show pd_w v b f x 1 2 = _
  rw [pd_w_ne (by omega)]
  exact h2
theorem TP_6 {k : List Int32} (ha : ker a) (h : TP s n m k a i0 p v) : TP s n m k a i0 p (pd_w v 1 6 x) := by
  have pa : a = 3 ∨ a = 88 := ha
  obtain ⟨h1, h2, h3, h4, h5, h6, h7⟩ := h
  refine ⟨⟨by rw [pd_w_nk (by decide)]; exact h1.1, fun i hi => by rw [pd_w_ne (by decide)]; exact h1.2 i hi⟩, ?_, h3, by rw [pd_w_nk (by decide)]; exact h4, by rw [pd_w_ne (by omega)]; exact h5, h6, h7⟩
  show pd_w v 1 6 x 1 2 = _
  rw [pd_w_nk (by decide)]
  exact h2
theorem zrw_t (hw : 4294967296 < w) (hn : n ≤ 160) (h0 : ∀ j, n ≤ j → s j = 0) (ha : ker a) (hb : b = a + 4 + j ∧ j < 80) (hT : TP s n 4 [] a i0 p v) : Sf (d_Re_readWhole w b v) (fun r => (r.1 = 0 ∧ ∃ q, q ≤ n ∧ xE s p = (false, q) ∧ Ac q r.2 ∧ SF a i0 b v r.2 ∧ ∀ f, f ≠ 7 → f ≠ 8 → f ≠ 9 → f ≠ 10 → r.2 b f = v b f) ∨ (r.1 = 1 ∧ ∃ q it, xE s p = (true, q) ∧ p < q ∧ q ≤ n ∧ Ac q r.2 ∧ SF a i0 b v r.2 ∧ r.2 a 4 = Int32.ofNat (i0 + it.length) ∧ WI s n a i0 p q it r.2 ∧ (r.2 b 7 = Int32.ofNat i0 ∧ r.2 b 8 = Int32.ofNat (i0 + it.length) ∧ r.2 b 9 = Int32.ofNat (i0 + it.length) ∧ r.2 b 10 = xnm s p (q - p)) ∧ ∀ f, f ≠ 7 → f ≠ 8 → f ≠ 9 → f ≠ 10 → r.2 b f = v b f)) := by
  have pa : a = 3 ∨ a = 88 := ha
  obtain ⟨t1, t2, t3, t4, t5, t6, t7⟩ := id hT
  unfold d_Re_readWhole
  have e7 : pd_w v 1 6 (0 : Int32) (kerOf (v 1 3)) 4 = Int32.ofNat i0 := by rw [t4, pd_w_ne (by omega)]; exact t5
  rw [e7]
  have T1 : TP s n 4 [] a i0 p (pd_w (pd_w v 1 6 (0 : Int32)) b 7 (Int32.ofNat i0)) := TP_b ha hb (TP_6 ha hT)
  have S1 : SF a i0 b v (pd_w (pd_w v 1 6 (0 : Int32)) b 7 (Int32.ofNat i0)) := SF_b ha hb (SF_1 ha SF_r (Or.inr rfl))
  refine sf_bind (zre_t (d := 0) hw hn h0 ha (by omega) rfl T1) (fun q1 h1 => ?_)
  rcases h1 with ⟨e1, q, q1', q2, q3, q4⟩ | ⟨e1, q, it, ev, q1', q2, q3, q4⟩
  · rw [e1]
    refine sf_n (fun c => absurd rfl c) (fun _ => sf_some (Or.inl ⟨rfl, q, q1', ?_, q3, SF_t (Nat.le_refl _) S1 (SF_X q4), fun f c7 _ _ _ => ?_⟩))
    · rw [xq_E hn h0 t3]; exact q2
    · show q1.2 b f = v b f
      rw [q4.1 b (by omega) (by omega) (by omega) (by omega), pd_w_nk c7, pd_w_ne (by omega)]
  · rw [e1]
    obtain ⟨s1, s2, s3, s4, s5, s6, s7⟩ := q3
    refine sf_n (fun _ => ?_) (fun c => absurd c (by decide))
    have ek : kerOf (q1.2 1 3) = a := kerOf_1 ha T1.2.2.2.1 s4.2.1
    have k8 : ∀ y, kerOf (pd_w q1.2 b 8 y 1 3) = a := fun y => by rw [pd_w_ne (by omega)]; exact ek
    have a8 : ∀ y, pd_w q1.2 b 8 y a 4 = Int32.ofNat (i0 + it.length) := fun y => by rw [pd_w_ne (by omega)]; exact s5.1
    rw [ek, k8, s5.1, a8]
    have n6 : pd_w (pd_w q1.2 b 8 (Int32.ofNat (i0 + it.length))) b 9 (Int32.ofNat (i0 + it.length)) 1 6 = xnm s p (q - p) := by
      rw [pd_w_ne (by omega), pd_w_ne (by omega), s7, pd_w_ne (by omega), pd_w_self, Int32.zero_or]
    rw [n6]
    have S2 : SF a i0 b v (pd_w (pd_w (pd_w q1.2 b 8 (Int32.ofNat (i0 + it.length))) b 9 (Int32.ofNat (i0 + it.length))) b 10 (xnm s p (q - p))) := SF_b ha hb (SF_b ha hb (SF_b ha hb (SF_t (Nat.le_refl _) S1 (SF_X s4))))
    have key : (fun r : Int32 × pd_V => (r.1 = 1 ∧ ∃ q it, xE s p = (true, q) ∧ p < q ∧ q ≤ n ∧ Ac q r.2 ∧ SF a i0 b v r.2 ∧ r.2 a 4 = Int32.ofNat (i0 + it.length) ∧ WI s n a i0 p q it r.2 ∧ (r.2 b 7 = Int32.ofNat i0 ∧ r.2 b 8 = Int32.ofNat (i0 + it.length) ∧ r.2 b 9 = Int32.ofNat (i0 + it.length) ∧ r.2 b 10 = xnm s p (q - p)) ∧ ∀ f, f ≠ 7 → f ≠ 8 → f ≠ 9 → f ≠ 10 → r.2 b f = v b f)) ((1 : Int32), pd_w (pd_w (pd_w q1.2 b 8 (Int32.ofNat (i0 + it.length))) b 9 (Int32.ofNat (i0 + it.length))) b 10 (xnm s p (q - p))) := by
      generalize hu : pd_w (pd_w (pd_w q1.2 b 8 (Int32.ofNat (i0 + it.length))) b 9 (Int32.ofNat (i0 + it.length))) b 10 (xnm s p (q - p)) = u at S2
      have ub : ∀ c, c ≠ b → u c = q1.2 c := fun c hc => by rw [← hu, pd_wa hc, pd_wa hc, pd_wa hc]
      refine ⟨rfl, q, it, ?_, s1, s2, ?_, S2, ?_, ⟨fun t y ht => ?_, s6, ev, q4⟩, ⟨?_, ?_, ?_, ?_⟩, fun f c7 c8 c9 c10 => ?_⟩
      · rw [xq_E hn h0 t3, q1', xq_ni s2 q2]
      · show u 1 2 = _
        rw [ub 1 (by omega)]; exact s3
      · show u a 4 = _
        rw [ub a (by omega)]; exact s5.1
      · show u (a + 2) (i0 + t) = y.1 ∧ u (a + 3) (i0 + t) = y.2
        rw [ub (a + 2) (by omega), ub (a + 3) (by omega)]; exact s5.2 t y ht
      · show u b 7 = _
        rw [← hu, pd_w_nk (by decide), pd_w_nk (by decide), pd_w_nk (by decide), s4.1 b (by omega) (by omega) (by omega) (by omega), pd_w_self]
      · show u b 8 = _
        rw [← hu, pd_w_nk (by decide), pd_w_nk (by decide), pd_w_self]
      · show u b 9 = _
        rw [← hu, pd_w_nk (by decide), pd_w_self]
      · show u b 10 = _
        rw [← hu, pd_w_self]
      · show u b f = _
        rw [← hu, pd_w_nk c10, pd_w_nk c9, pd_w_nk c8, s4.1 b (by omega) (by omega) (by omega) (by omega), pd_w_nk c7, pd_w_ne (by omega)]
    exact sf_some (Or.inr key)
end WHS
