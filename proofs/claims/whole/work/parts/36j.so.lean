/-! L[E]=F, as the class reads it -/
def xsto (s : Nat → Int32) (p : Nat) : Bool × Nat := bif decide (s p = 91) then (bif (xE1 s (p + 1)).1 then (bif decide (s (xE1 s (p + 1)).2 = 61) then xE s ((xE1 s (p + 1)).2 + 1) else (false, (xE1 s (p + 1)).2)) else xE1 s (p + 1)) else (false, p)
section SOS
variable {s : Nat → Int32} {n m w a b i0 p j : Nat} {v u : pd_V} {x : Int32}
theorem xsto_t {q : Nat} (h1 : s p = 91) (h2 : xE1 s (p + 1) = (true, q + 1)) (h3 : s (q + 1) = 61) : xsto s p = xE s (q + 2) := by
  unfold xsto
  rw [h2, decide_eq_true h1]
  show (bif decide (s (q + 1) = 61) then xE s (q + 2) else (false, q + 1)) = xE s (q + 2)
  rw [decide_eq_true h3]
  rfl
theorem WI_X {i i1 q : Nat} {it : List (Int32 × Int32)} (h : WI s n a i p q it v) (hi : i + it.length ≤ i1) (hX : ∀ t, t < i1 → u (a + 2) t = v (a + 2) t ∧ u (a + 3) t = v (a + 3) t) : WI s n a i p q it u := by
  refine ⟨fun t y ht => ?_, h.2⟩
  have h1 := (List.getElem?_eq_some_iff.mp ht).1
  have := hX (i + t) (by omega)
  rw [this.1, this.2]
  exact h.1 t y ht
def SOF (s : Nat → Int32) (n a b i0 p : Nat) (v : pd_V) (u : pd_V) : Prop := ∃ q, q ≤ n ∧ xsto s p = (false, q) ∧ Ac q u ∧ SF a i0 b v u ∧ ∀ f, f ≠ 7 → f ≠ 8 → f ≠ 9 → u b f = v b f
def SOT (s : Nat → Int32) (n a b i0 p : Nat) (v : pd_V) (u : pd_V) : Prop := ∃ q1 q2 it1 it2, xsto s p = (true, q2) ∧ s p = 91 ∧ xp s 3 200 (p + 1) [] true = (true, q1) ∧ s q1 = 93 ∧ s (q1 + 1) = 61 ∧ xE s (q1 + 2) = (true, q2) ∧ p + 1 < q1 ∧ q1 + 2 < q2 ∧ q2 ≤ n ∧ Ac q2 u ∧ SF a i0 b v u ∧ WI s n a i0 (p + 1) q1 it1 u ∧ WI s n a (i0 + it1.length) (q1 + 2) q2 it2 u ∧ (u b 7 = Int32.ofNat i0 ∧ u b 8 = Int32.ofNat (i0 + it1.length) ∧ u b 9 = Int32.ofNat (i0 + it1.length + it2.length)) ∧ u a 4 = Int32.ofNat (i0 + it1.length + it2.length) ∧ ∀ f, f ≠ 7 → f ≠ 8 → f ≠ 9 → u b f = v b f
theorem zrs_t (hw : 4294967296 < w) (hn : n ≤ 160) (h0 : ∀ j, n ≤ j → s j = 0) (ha : ker a) (hb : b = a + 4 + j ∧ j < 80) (hT : TP s n 4 [] a i0 p v) : Sf (d_Re_readStoring w b v) (fun r => (r.1 = 0 ∧ SOF s n a b i0 p v r.2) ∨ (r.1 = 1 ∧ SOT s n a b i0 p v r.2)) := by
  have pa : a = 3 ∨ a = 88 := ha
  obtain ⟨t1, t2, t3, t4, t5, t6, t7⟩ := id hT
  unfold d_Re_readStoring
  rw [t4, t5]
  have T1 : TP s n 4 [] a i0 p (pd_w v b 7 (Int32.ofNat i0)) := TP_b ha hb hT
  have S1 : SF a i0 b v (pd_w v b 7 (Int32.ofNat i0)) := SF_b ha hb SF_r
  have f1 : ∀ f, f ≠ 7 → pd_w v b 7 (Int32.ofNat i0) b f = v b f := fun f hf => pd_w_nk hf
  rw [tkc_t hn h0 T1.1 T1.2.1 (by omega) (by decide)]
  refine sf_sb ?_
  cases z : decide (s p = 91) with
  | false =>
    refine sf_d (fun _ => sf_some (Or.inl ⟨rfl, p, t3, ?_, T1.2.1, S1, fun f c7 _ _ => f1 f c7⟩)) (fun c => absurd rfl c)
    unfold xsto
    rw [z]
    rfl
  | true =>
    have zo : s p = 91 := of_decide_eq_true z
    have p1 : p + 1 ≤ n := xrg_n h0 t3 (xrg_1 (by rw [zo]; unfold xok; decide))
    refine sf_d (fun c => absurd (show (1 : Int32) = 0 from c) (by decide)) (fun _ => ?_)
    have T2 : TP s n 3 [] a i0 (p + 1) (pd_w (pd_w v b 7 (Int32.ofNat i0)) 1 2 (Int32.ofNat p + (1 : Int32))) := by
      have := TP_1 ha T1 p1
      exact ⟨this.1, this.2.1, this.2.2.1, this.2.2.2.1, this.2.2.2.2.1, this.2.2.2.2.2.1, Nat.zero_le _⟩
    have S2 : SF a i0 b v (pd_w (pd_w v b 7 (Int32.ofNat i0)) 1 2 (Int32.ofNat p + (1 : Int32))) := SF_1 ha S1 (Or.inl rfl)
    have f2 : ∀ f, f ≠ 7 → pd_w (pd_w v b 7 (Int32.ofNat i0)) 1 2 (Int32.ofNat p + (1 : Int32)) b f = v b f := fun f hf => by rw [pd_w_ne (by omega)]; exact f1 f hf
    have b7 : pd_w (pd_w v b 7 (Int32.ofNat i0)) 1 2 (Int32.ofNat p + (1 : Int32)) b 7 = Int32.ofNat i0 := by rw [pd_w_ne (by omega), pd_w_self]
    show Sf ((d_RE5 w (1 : Int32) (pd_w (pd_w v b 7 (Int32.ofNat i0)) 1 2 (Int32.ofNat p + (1 : Int32)))).bind _) _
    refine sf_bind (zre_t (d := 1) hw hn h0 ha (by omega) rfl T2) (fun q3 h3 => ?_)
    rcases h3 with ⟨e1, q, c1, c2, c3, c4⟩ | ⟨e1, q, it1, ev1, c1, c2, c3, c4⟩
    · rw [e1]
      have c4b : ∀ f, q3.2 b f = pd_w (pd_w v b 7 (Int32.ofNat i0)) 1 2 (Int32.ofNat p + (1 : Int32)) b f := fun f => by rw [c4.1 b (by omega) (by omega) (by omega) (by omega)]
      refine sf_d (fun _ => sf_some (Or.inl ⟨rfl, q, c1, ?_, c3, SF_t (Nat.le_refl _) S2 (SF_X c4), fun f c7 _ _ => (c4b f).trans (f2 f c7)⟩)) (fun c => absurd rfl c)
      unfold xsto
      rw [z, xq_E1 hn h0 p1, c2]
      rfl
    · rw [e1]
      obtain ⟨s1, s2, s3, s4, s5, s6, s7⟩ := c3
      refine sf_d (fun c => absurd c (by decide)) (fun _ => ?_)
      have D3 := RD_X ha T2.1 s4
      have c4b : ∀ f, q3.2 b f = pd_w (pd_w v b 7 (Int32.ofNat i0)) 1 2 (Int32.ofNat p + (1 : Int32)) b f := fun f => by rw [s4.1 b (by omega) (by omega) (by omega) (by omega)]
      have S3 := SF_t (Nat.le_refl _) S2 (SF_X (b := b) s4)
      have xe1 : xE1 s (p + 1) = xo s (true, q) := by rw [xq_E1 hn h0 p1, c1, xq_ni s2 c2]
      rw [tkc_t hn h0 D3 s3 (by omega) (by decide)]
      refine sf_sb ?_
      cases z2 : decide (s q = 93) with
      | false =>
        refine sf_n (fun c => absurd rfl c) (fun _ => sf_some (Or.inl ⟨rfl, q, s2, ?_, s3, S3, fun f c7 _ _ => (c4b f).trans (f2 f c7)⟩))
        unfold xsto
        rw [z, xe1]
        unfold xo
        show (bif (bif decide (s q = 93) then (true, q + 1) else (false, q)).1 then _ else (bif decide (s q = 93) then (true, q + 1) else (false, q))) = _
        rw [z2]
        rfl
      | true =>
        have zq : s q = 93 := of_decide_eq_true z2
        have qn : q + 1 ≤ n := xrg_n h0 s2 (xrg_1 (by rw [zq]; unfold xok; decide))
        have xe2 : xE1 s (p + 1) = (true, q + 1) := by
          rw [xe1]
          unfold xo
          show (bif decide (s q = 93) then (true, q + 1) else (false, q)) = _
          rw [z2]
          rfl
        refine sf_n (fun _ => ?_) (fun c => absurd (show (1 : Int32) = 0 from c) (by decide))
        show Sf ((d_Re_take (61 : Int32) (pd_w (pd_w q3.2 1 2 (Int32.ofNat q + (1 : Int32))) b 8 (pd_w q3.2 1 2 (Int32.ofNat q + (1 : Int32)) (kerOf (pd_w q3.2 1 2 (Int32.ofNat q + (1 : Int32)) 1 3)) 4))).bind _) _
        have ek : kerOf (pd_w q3.2 1 2 (Int32.ofNat q + (1 : Int32)) 1 3) = a := by rw [pd_w_nk (by decide)]; exact ker_X ha T2.2.2.2.1 s4
        have e4 : pd_w q3.2 1 2 (Int32.ofNat q + (1 : Int32)) a 4 = Int32.ofNat (i0 + it1.length) := by rw [pd_w_ne (by omega)]; exact s5.1
        rw [ek, e4]
        have T5 : TP s n 4 [] a (i0 + it1.length) (q + 1) (pd_w q3.2 1 2 (Int32.ofNat q + (1 : Int32))) := ⟨RD_X (i0 := 0) ha D3 (XF_1 ha XF_r (Or.inl rfl)), Ac_1, qn, ek, e4, by omega, Nat.zero_le _⟩
        have T6 : TP s n 4 [] a (i0 + it1.length) (q + 1) (pd_w (pd_w q3.2 1 2 (Int32.ofNat q + (1 : Int32))) b 8 (Int32.ofNat (i0 + it1.length))) := TP_b ha hb T5
        have S6 : SF a i0 b v (pd_w (pd_w q3.2 1 2 (Int32.ofNat q + (1 : Int32))) b 8 (Int32.ofNat (i0 + it1.length))) := SF_b ha hb (SF_1 ha S3 (Or.inl rfl))
        have f6 : ∀ f, f ≠ 7 → f ≠ 8 → pd_w (pd_w q3.2 1 2 (Int32.ofNat q + (1 : Int32))) b 8 (Int32.ofNat (i0 + it1.length)) b f = v b f := fun f h7 h8 => by rw [pd_w_nk h8, pd_w_ne (by omega), c4b f]; exact f2 f h7
        have g7 : pd_w (pd_w q3.2 1 2 (Int32.ofNat q + (1 : Int32))) b 8 (Int32.ofNat (i0 + it1.length)) b 7 = Int32.ofNat i0 := by rw [pd_w_nk (by decide), pd_w_ne (by omega), c4b 7]; exact b7
        have w1 : WI s n a i0 (p + 1) q it1 (pd_w (pd_w q3.2 1 2 (Int32.ofNat q + (1 : Int32))) b 8 (Int32.ofNat (i0 + it1.length))) := ⟨fun t y ht => by rw [pd_w_ne (by omega), pd_w_ne (by omega), pd_w_ne (by omega), pd_w_ne (by omega)]; exact s5.2 t y ht, s6, ev1, EX_4 c4 (by decide)⟩
        rw [tkc_t hn h0 T6.1 T6.2.1 (by omega) (by decide)]
        refine sf_sb ?_
        cases z3 : decide (s (q + 1) = 61) with
        | false =>
          refine sf_d (fun _ => sf_some (Or.inl ⟨rfl, q + 1, qn, ?_, T6.2.1, S6, fun f c7 c8 _ => f6 f c7 c8⟩)) (fun c => absurd rfl c)
          unfold xsto
          rw [z, xe2]
          show (bif decide (s (q + 1) = 61) then _ else (false, q + 1)) = _
          rw [z3]
          rfl
        | true =>
          have zq2 : s (q + 1) = 61 := of_decide_eq_true z3
          have qn2 : q + 2 ≤ n := xrg_n h0 qn (xrg_1 (by rw [zq2]; unfold xok; decide))
          refine sf_d (fun c => absurd (show (1 : Int32) = 0 from c) (by decide)) (fun _ => ?_)
          have T7 := TP_1 ha T6 qn2
          have S7 : SF a i0 b v (pd_w (pd_w (pd_w q3.2 1 2 (Int32.ofNat q + (1 : Int32))) b 8 (Int32.ofNat (i0 + it1.length))) 1 2 (Int32.ofNat (q + 1) + (1 : Int32))) := SF_1 ha S6 (Or.inl rfl)
          show Sf ((d_RE5 w (0 : Int32) (pd_w (pd_w (pd_w q3.2 1 2 (Int32.ofNat q + (1 : Int32))) b 8 (Int32.ofNat (i0 + it1.length))) 1 2 (Int32.ofNat (q + 1) + (1 : Int32)))).bind _) _
          refine sf_bind (zre_t (d := 0) hw hn h0 ha (by omega) rfl T7) (fun q9 h9 => ?_)
          rcases h9 with ⟨e9, r0, d1, d2, d3, d4⟩ | ⟨e9, r0, it2, ev2, d1, d2, d3, d4⟩
          · rw [e9]
            refine sf_n (fun c => absurd rfl c) (fun _ => sf_some (Or.inl ⟨rfl, r0, d1, ?_, d3, SF_t (Nat.le_add_right _ _) S7 (SF_X d4), fun f c7 c8 _ => ?_⟩))
            · rw [xsto_t zo xe2 zq2, xq_E hn h0 qn2]
              exact d2
            · show q9.2 b f = _
              rw [d4.1 b (by omega) (by omega) (by omega) (by omega), pd_w_ne (by omega)]
              exact f6 f c7 c8
          · rw [e9]
            obtain ⟨u1, u2, u3, u4, u5, u6, u7⟩ := d3
            refine sf_n (fun _ => ?_) (fun c => absurd c (by decide))
            have ek9 : kerOf (q9.2 1 3) = a := ker_X ha T7.2.2.2.1 u4
            rw [ek9, u5.1]
            have S9 : SF a i0 b v (pd_w q9.2 b 9 (Int32.ofNat (i0 + it1.length + it2.length))) := SF_b ha hb (SF_t (Nat.le_add_right _ _) S7 (SF_X u4))
            have q9b : ∀ f, q9.2 b f = pd_w (pd_w q3.2 1 2 (Int32.ofNat q + (1 : Int32))) b 8 (Int32.ofNat (i0 + it1.length)) b f := fun f => by rw [u4.1 b (by omega) (by omega) (by omega) (by omega), pd_w_ne (by omega)]
            have xx : xE s (q + 2) = (true, r0) := by rw [xq_E hn h0 qn2]; exact d1.trans (xq_ni u2 d2)
            have key : SOT s n a b i0 p v (pd_w q9.2 b 9 (Int32.ofNat (i0 + it1.length + it2.length))) := by
              refine ⟨q, r0, it1, it2, ?_, zo, ?_, zq, zq2, xx, s1, u1, u2, ?_, S9, ?_, ⟨fun t y ht => ?_, u6, ev2, d4⟩, ⟨?_, ?_, pd_w_self⟩, ?_, fun f c7 c8 c9 => ?_⟩
              · rw [xsto_t zo xe2 zq2]
                exact xx
              · rw [xp_fu h0 200 (n + 2 - (p + 1)) (p + 1) [] true (by omega) (by omega) p1]
                exact c1.trans (xq_ni s2 c2)
              · show pd_w q9.2 b 9 _ 1 2 = _
                rw [pd_w_ne (by omega)]
                exact u3
              · refine WI_X (i1 := i0 + it1.length) w1 (Nat.le_refl _) (fun t ht => ?_)
                refine ⟨?_, ?_⟩
                · rw [pd_w_ne (by omega), (u4.2.2.2 t ht).1, pd_w_ne (by omega)]
                · rw [pd_w_ne (by omega), (u4.2.2.2 t ht).2, pd_w_ne (by omega)]
              · rw [pd_w_ne (by omega), pd_w_ne (by omega)]
                exact u5.2 t y ht
              · rw [pd_w_nk (by decide), q9b 7]
                exact g7
              · rw [pd_w_nk (by decide), q9b 8, pd_w_self]
              · rw [pd_w_ne (by omega)]
                exact u5.1
              · rw [pd_w_nk c9, q9b f]
                exact f6 f c7 c8
            exact sf_some (Or.inr ⟨rfl, key⟩)
end SOS
