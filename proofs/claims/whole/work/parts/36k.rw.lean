/-! what a row says -/
def ZW (s : Nat → Int32) (n a b p q i1 : Nat) (v : pd_V) : Prop := ∃ i it, v b 7 = Int32.ofNat i ∧ v b 8 = Int32.ofNat (i + it.length) ∧ v b 9 = Int32.ofNat (i + it.length) ∧ v b 10 = xnm s p (q - p) ∧ i + it.length ≤ i1 ∧ WI s n a i p q it v
def ZW2 (s : Nat → Int32) (n a b p q p2 q2 i1 : Nat) (v : pd_V) : Prop := ∃ i it1 it2, v b 7 = Int32.ofNat i ∧ v b 8 = Int32.ofNat (i + it1.length) ∧ v b 9 = Int32.ofNat (i + it1.length + it2.length) ∧ i + it1.length + it2.length ≤ i1 ∧ WI s n a i p q it1 v ∧ WI s n a (i + it1.length) p2 q2 it2 v
def ZR (s : Nat → Int32) (n a b p nb i1 : Nat) (v : pd_V) : Prop := v b 0 = d_Re_kindFor (s p) ∧ v b 1 = Int32.ofNat p ∧ v b 2 = Int32.ofNat nb ∧
  ((s p = 79 ∧ ∃ e, xE s (p + 1) = (true, e) ∧ ZW s n a b (p + 1) e i1 v)
  ∨ s p = 82
  ∨ (s p = 76 ∧ ∃ r e, xp s 3 200 (p + 2) [] true = (true, r) ∧ s r = 93 ∧ s (r + 1) = 61 ∧ xE s (r + 2) = (true, e) ∧ ZW2 s n a b (p + 2) r (r + 2) e i1 v)
  ∨ (s p = 88 ∧ v b 5 = s (p + 1) - 97 ∧ v b 6 = s (p + 2) - 97 ∧ ∃ e, xE s (p + 3) = (true, e) ∧ ZW s n a b (p + 3) e i1 v)
  ∨ (xvar (s p) = true ∧ v b 5 = s p - 97 ∧ ∃ e, xE s (p + 2) = (true, e) ∧ ZW s n a b (p + 2) e i1 v)
  ∨ ((s p = 63 ∨ s p = 42) ∧ ∃ e, xE s (p + 1) = (true, e) ∧ ZW s n a b (p + 1) e i1 v))
def ZF (a i0 b : Nat) (v q : pd_V) : Prop := (∀ c, c ≠ 1 → c ≠ a → c ≠ a + 2 → c ≠ a + 3 → c ≠ b → q c = v c) ∧ (∀ k, k ≠ 2 → k ≠ 6 → q 1 k = v 1 k) ∧ (∀ i, i < i0 → q (a + 2) i = v (a + 2) i ∧ q (a + 3) i = v (a + 3) i)
def ZE (s : Nat → Int32) (n a b j i0 i1 p nb e : Nat) (y : Int32) (v u : pd_V) : Prop := (RD n s u ∧ Ac e u ∧ e ≤ n ∧ kerOf (u 1 3) = a) ∧ ZF a i0 b v u ∧ (u a 3 = Int32.ofNat (j + 1) ∧ u a 4 = Int32.ofNat i1 ∧ i0 ≤ i1 ∧ i1 ≤ e) ∧ (u b 0 = y ∧ u b 1 = Int32.ofNat p ∧ u b 2 = Int32.ofNat nb ∧ u b 4 = 0)
section RWS
variable {s : Nat → Int32} {n m w a b i0 i1 i2 p q e j nb : Nat} {v u t : pd_V} {x y : Int32}
theorem WI_f {i : Nat} {it : List (Int32 × Int32)} (h : WI s n a i p q it v) (hi : i + it.length ≤ i1) (hX : ∀ t, t < i1 → u (a + 2) t = v (a + 2) t ∧ u (a + 3) t = v (a + 3) t) : WI s n a i p q it u := WI_X h hi hX
theorem ZW_f (h : ZW s n a b p q i1 v) (hi : i1 ≤ i2) (hb : ∀ f, f ≠ 3 → f ≠ 4 → u b f = v b f) (hX : ∀ t, t < i1 → u (a + 2) t = v (a + 2) t ∧ u (a + 3) t = v (a + 3) t) : ZW s n a b p q i2 u := by
  obtain ⟨i, it, h1, h2, h3, h4, h5, h6⟩ := h
  exact ⟨i, it, by rw [hb 7 (by decide) (by decide)]; exact h1, by rw [hb 8 (by decide) (by decide)]; exact h2, by rw [hb 9 (by decide) (by decide)]; exact h3, by rw [hb 10 (by decide) (by decide)]; exact h4, by omega, WI_X h6 h5 hX⟩
theorem ZW2_f {p2 q2 : Nat} (h : ZW2 s n a b p q p2 q2 i1 v) (hi : i1 ≤ i2) (hb : ∀ f, f ≠ 3 → f ≠ 4 → u b f = v b f) (hX : ∀ t, t < i1 → u (a + 2) t = v (a + 2) t ∧ u (a + 3) t = v (a + 3) t) : ZW2 s n a b p q p2 q2 i2 u := by
  obtain ⟨i, it, it2, h1, h2, h3, h5, h6, h7⟩ := h
  exact ⟨i, it, it2, by rw [hb 7 (by decide) (by decide)]; exact h1, by rw [hb 8 (by decide) (by decide)]; exact h2, by rw [hb 9 (by decide) (by decide)]; exact h3, by omega, WI_X h6 (by omega) hX, WI_X h7 h5 hX⟩
theorem ZR_f (h : ZR s n a b p nb i1 v) (hi : i1 ≤ i2) (hb : ∀ f, f ≠ 3 → f ≠ 4 → u b f = v b f) (hX : ∀ t, t < i1 → u (a + 2) t = v (a + 2) t ∧ u (a + 3) t = v (a + 3) t) : ZR s n a b p nb i2 u := by
  obtain ⟨h0, h1, h2, h3⟩ := h
  refine ⟨by rw [hb 0 (by decide) (by decide)]; exact h0, by rw [hb 1 (by decide) (by decide)]; exact h1, by rw [hb 2 (by decide) (by decide)]; exact h2, ?_⟩
  rcases h3 with ⟨g, e, g1, g2⟩ | g | ⟨g, r, e, g1, g2, g3, g4, g5⟩ | ⟨g, g1, g2, e, g3, g4⟩ | ⟨g, g1, e, g3, g4⟩ | ⟨g, e, g3, g4⟩
  · exact Or.inl ⟨g, e, g1, ZW_f g2 hi hb hX⟩
  · exact Or.inr (Or.inl g)
  · exact Or.inr (Or.inr (Or.inl ⟨g, r, e, g1, g2, g3, g4, ZW2_f g5 hi hb hX⟩))
  · exact Or.inr (Or.inr (Or.inr (Or.inl ⟨g, by rw [hb 5 (by decide) (by decide)]; exact g1, by rw [hb 6 (by decide) (by decide)]; exact g2, e, g3, ZW_f g4 hi hb hX⟩)))
  · exact Or.inr (Or.inr (Or.inr (Or.inr (Or.inl ⟨g, by rw [hb 5 (by decide) (by decide)]; exact g1, e, g3, ZW_f g4 hi hb hX⟩))))
  · exact Or.inr (Or.inr (Or.inr (Or.inr (Or.inr ⟨g, e, g3, ZW_f g4 hi hb hX⟩))))
theorem ZF_t (hi : i0 ≤ i1) (h1 : ZF a i0 b v u) (h2 : SF a i1 b u t) : ZF a i0 b v t := ⟨fun c c1 c2 c3 c4 c5 => (h2.1 c c1 c2 c3 c4 c5).trans (h1.1 c c1 c2 c3 c4 c5), fun k c d => (h2.2.1 k c d).trans (h1.2.1 k c d), fun i hi2 => ⟨(h2.2.2.2 i (by omega)).1.trans (h1.2.2 i hi2).1, (h2.2.2.2 i (by omega)).2.trans (h1.2.2 i hi2).2⟩⟩
theorem ZE_TP (h : ZE s n a b j i0 i1 p nb e y v u) : TP s n 4 [] a i1 e u := ⟨h.1.1, h.1.2.1, h.1.2.2.1, h.1.2.2.2, h.2.2.1.2.1, h.2.2.1.2.2.2, Nat.zero_le _⟩
/-- one sign more -/
theorem ZE_1 (ha : ker a) (hb : b = a + 4 + j ∧ j < 80) (h : ZE s n a b j i0 i1 p nb e y v u) (he : e + 1 ≤ n) : ZE s n a b j i0 i1 p nb (e + 1) y v (pd_w u 1 2 (Int32.ofNat e + (1 : Int32))) := by
  have pa : a = 3 ∨ a = 88 := ha
  obtain ⟨⟨h1, h2, h3, h4⟩, h5, ⟨h6, h7, h8, h9⟩, h10, h11, h12, h13⟩ := h
  have eb : ∀ f, pd_w u 1 2 (Int32.ofNat e + (1 : Int32)) b f = u b f := fun f => pd_w_ne (by omega)
  have ea : ∀ f, pd_w u 1 2 (Int32.ofNat e + (1 : Int32)) a f = u a f := fun f => pd_w_ne (by omega)
  refine ⟨⟨RD_X (i0 := 0) ha h1 (XF_1 ha XF_r (Or.inl rfl)), Ac_1, he, by rw [pd_w_nk (by decide)]; exact h4⟩, ZF_t (Nat.le_refl _) h5 (SF_1 ha SF_r (Or.inl rfl)), ⟨by rw [ea]; exact h6, by rw [ea]; exact h7, h8, by omega⟩, by rw [eb]; exact h10, by rw [eb]; exact h11, by rw [eb]; exact h12, by rw [eb]; exact h13⟩
theorem ZE_b {f : Nat} (ha : ker a) (hb : b = a + 4 + j ∧ j < 80) (hf : f = 5 ∨ f = 6) (h : ZE s n a b j i0 i1 p nb e y v u) : ZE s n a b j i0 i1 p nb e y v (pd_w u b f x) := by
  have pa : a = 3 ∨ a = 88 := ha
  have hT := TP_b (x := x) (f := f) ha hb (ZE_TP h)
  obtain ⟨⟨h1, h2, h3, h4⟩, h5, ⟨h6, h7, h8, h9⟩, h10, h11, h12, h13⟩ := h
  refine ⟨⟨hT.1, hT.2.1, h3, hT.2.2.2.1⟩, ZF_t (Nat.le_refl _) h5 (SF_b ha hb SF_r), ⟨by rw [pd_w_ne (by omega)]; exact h6, by rw [pd_w_ne (by omega)]; exact h7, h8, h9⟩, by rw [pd_w_nk (by omega)]; exact h10, by rw [pd_w_nk (by omega)]; exact h11, by rw [pd_w_nk (by omega)]; exact h12, by rw [pd_w_nk (by omega)]; exact h13⟩
/-- a new row -/
theorem ZE_0 (ha : ker a) (hb : b = a + 4 + j ∧ j < 80) (hD : RD n s v) (hA : Ac p v) (hp : p ≤ n) (hk : kerOf (v 1 3) = a) (h3 : v a 3 = Int32.ofNat j) (h4 : v a 4 = Int32.ofNat i0) (hi : i0 ≤ p) : Sf (d_Ke_addStep a y (Int32.ofNat p) (Int32.ofNat nb) v) (fun r => r.1 = b ∧ ZE s n a b j i0 i0 p nb p y v r.2) := by
  have pa : a = 3 ∨ a = 88 := ha
  have hA' : v 1 2 = Int32.ofNat p := hA
  rw [zas_t ha h3 hb.2, ← hb.1]
  refine sf_some ⟨rfl, ?_⟩
  show ZE s n a b j i0 i0 p nb p y v (pd_w (pd_w (pd_w (pd_w (pd_w v a 3 (Int32.ofNat (j + 1))) b 0 y) b 1 (Int32.ofNat p)) b 2 (Int32.ofNat nb)) b 4 (0 : Int32))
  have o : ∀ c, c ≠ a → c ≠ b → pd_w (pd_w (pd_w (pd_w (pd_w v a 3 (Int32.ofNat (j + 1))) b 0 y) b 1 (Int32.ofNat p)) b 2 (Int32.ofNat nb)) b 4 (0 : Int32) c = v c := fun c h1 h2 => by rw [pd_wa h2, pd_wa h2, pd_wa h2, pd_wa h2, pd_wa h1]
  have oa : ∀ f, f ≠ 3 → pd_w (pd_w (pd_w (pd_w (pd_w v a 3 (Int32.ofNat (j + 1))) b 0 y) b 1 (Int32.ofNat p)) b 2 (Int32.ofNat nb)) b 4 (0 : Int32) a f = v a f := fun f h1 => by rw [pd_w_ne (by omega), pd_w_ne (by omega), pd_w_ne (by omega), pd_w_ne (by omega), pd_w_nk h1]
  refine ⟨⟨⟨by rw [o 1 (by omega) (by omega)]; exact hD.1, fun i hi => by rw [o 2 (by omega) (by omega)]; exact hD.2 i hi⟩, ?_, hp, by rw [o 1 (by omega) (by omega)]; exact hk⟩, ⟨fun c c1 c2 c3 c4 c5 => o c c2 c5, fun k _ _ => by rw [o 1 (by omega) (by omega)], fun i _ => ⟨by rw [o (a + 2) (by omega) (by omega)], by rw [o (a + 3) (by omega) (by omega)]⟩⟩, ⟨?_, by rw [oa 4 (by decide)]; exact h4, Nat.le_refl _, hi⟩, ?_, ?_, ?_, pd_w_self⟩
  · show _ = _
    rw [o 1 (by omega) (by omega)]
    exact hA
  · rw [pd_w_ne (by omega), pd_w_ne (by omega), pd_w_ne (by omega), pd_w_ne (by omega), pd_w_self]
  · rw [pd_w_nk (by decide), pd_w_nk (by decide), pd_w_nk (by decide), pd_w_self]
  · rw [pd_w_nk (by decide), pd_w_nk (by decide), pd_w_self]
  · rw [pd_w_nk (by decide), pd_w_self]
/-- its only expression -/
theorem zrw_e (hw : 4294967296 < w) (hn : n ≤ 160) (h0 : ∀ j, n ≤ j → s j = 0) (ha : ker a) (hb : b = a + 4 + j ∧ j < 80) (h : ZE s n a b j i0 i1 p nb q y v u) : Sf (d_Re_readWhole w b u) (fun r => (r.1 = 0 ∧ ∃ z, xE s q = (false, z) ∧ Ac z r.2) ∨ (r.1 = 1 ∧ ∃ e i2, xE s q = (true, e) ∧ q < e ∧ ZE s n a b j i0 i2 p nb e y v r.2 ∧ ZW s n a b q e i2 r.2 ∧ r.2 b 5 = u b 5 ∧ r.2 b 6 = u b 6)) := by
  have pa : a = 3 ∨ a = 88 := ha
  refine sf_mono (zrw_t hw hn h0 ha hb (ZE_TP h)) (fun r hr => ?_)
  rcases hr with ⟨e1, z, -, z2, z3, -⟩ | ⟨e1, e, it, g1, g2, g3, g4, g5, g6, g7, ⟨g8, g9, g10, g11⟩, g12⟩
  · exact Or.inl ⟨e1, z, z2, z3⟩
  · obtain ⟨⟨h1, h2, h3, h4⟩, h5, ⟨h6, h7, h8, h9⟩, h10, h11, h12, h13⟩ := h
    have hD : RD n s r.2 := ⟨by rw [g5.2.1 1 (by decide) (by decide)]; exact h1.1, fun i hi => by rw [g5.1 2 (by omega) (by omega) (by omega) (by omega) (by omega)]; exact h1.2 i hi⟩
    have gl := g7.2.1
    refine Or.inr ⟨e1, e, i1 + it.length, g1, g2, ⟨⟨hD, g4, g3, by rw [g5.2.1 3 (by decide) (by decide)]; exact h4⟩, ZF_t h8 h5 g5, ⟨by rw [g5.2.2.1 3 (by decide)]; exact h6, g6, by omega, by omega⟩, ?_, ?_, ?_, ?_⟩, ⟨i1, it, g8, g9, g10, g11, Nat.le_refl _, g7⟩, g12 5 (by decide) (by decide) (by decide) (by decide), g12 6 (by decide) (by decide) (by decide) (by decide)⟩
    · rw [g12 0 (by decide) (by decide) (by decide) (by decide)]; exact h10
    · rw [g12 1 (by decide) (by decide) (by decide) (by decide)]; exact h11
    · rw [g12 2 (by decide) (by decide) (by decide) (by decide)]; exact h12
    · rw [g12 4 (by decide) (by decide) (by decide) (by decide)]; exact h13
theorem zrs_e (hw : 4294967296 < w) (hn : n ≤ 160) (h0 : ∀ j, n ≤ j → s j = 0) (ha : ker a) (hb : b = a + 4 + j ∧ j < 80) (h : ZE s n a b j i0 i1 p nb q y v u) : Sf (d_Re_readStoring w b u) (fun r => (r.1 = 0 ∧ ∃ z, xsto s q = (false, z) ∧ Ac z r.2) ∨ (r.1 = 1 ∧ ∃ q1 e i2, xsto s q = (true, e) ∧ s q = 91 ∧ xp s 3 200 (q + 1) [] true = (true, q1) ∧ s q1 = 93 ∧ s (q1 + 1) = 61 ∧ xE s (q1 + 2) = (true, e) ∧ q < e ∧ ZE s n a b j i0 i2 p nb e y v r.2 ∧ ZW2 s n a b (q + 1) q1 (q1 + 2) e i2 r.2)) := by
  have pa : a = 3 ∨ a = 88 := ha
  refine sf_mono (zrs_t hw hn h0 ha hb (ZE_TP h)) (fun r hr => ?_)
  rcases hr with ⟨e1, z, -, z2, z3, -⟩ | ⟨e1, q1, e, it1, it2, g1, g2, g3, g4, g5, g6, g7, g8, g9, g10, g11, g12, g13, ⟨g14, g15, g16⟩, g17, g18⟩
  · exact Or.inl ⟨e1, z, z2, z3⟩
  · obtain ⟨⟨h1, h2, h3, h4⟩, h5, ⟨h6, h7, h8, h9⟩, h10, h11, h12, h13⟩ := h
    have hD : RD n s r.2 := ⟨by rw [g11.2.1 1 (by decide) (by decide)]; exact h1.1, fun i hi => by rw [g11.1 2 (by omega) (by omega) (by omega) (by omega) (by omega)]; exact h1.2 i hi⟩
    have gl := g12.2.1
    have gl2 := g13.2.1
    refine Or.inr ⟨e1, q1, e, i1 + it1.length + it2.length, g1, g2, g3, g4, g5, g6, by omega, ⟨⟨hD, g10, g9, by rw [g11.2.1 3 (by decide) (by decide)]; exact h4⟩, ZF_t h8 h5 g11, ⟨by rw [g11.2.2.1 3 (by decide)]; exact h6, g17, by omega, by omega⟩, ?_, ?_, ?_, ?_⟩, ⟨i1, it1, it2, g14, g15, g16, Nat.le_refl _, g12, g13⟩⟩
    · rw [g18 0 (by decide) (by decide) (by decide)]; exact h10
    · rw [g18 1 (by decide) (by decide) (by decide)]; exact h11
    · rw [g18 2 (by decide) (by decide) (by decide)]; exact h12
    · rw [g18 4 (by decide) (by decide) (by decide)]; exact h13
end RWS
