/-! the reference's run in step -/
def xmk (h m : Nat) : Int32 := bif Nat.beq m 0 then Int32.ofNat h else bif Nat.beq m 1 then -1 else -2
def MK (v : pd_V) : xK → Prop
  | [] => True
  | (h, m) :: k => v 216 k.length = xmk h m ∧ MK v k
def MS (v q : pd_V) : Prop := (∀ a, (a < 198 ∨ 199 ≤ a ∧ a ≤ 203 ∨ 210 ≤ a ∧ a ≤ 212) → q a = v a) ∧ (∀ k, k < 23 → k ≠ 6 → k ≠ 19 → q 198 k = v 198 k)
def IS (v q : pd_V) : Prop := (∀ a, a ≠ 198 → q a = v a) ∧ (∀ k, (k < 23 ∨ 26 < k) → q 198 k = v 198 k)
section AL
variable {s : Nat → Int32} {n w : Nat} {v u q : pd_V} {p e l : Nat} {x : Int32} {k k0 : xK}
theorem MS_r : MS v v := ⟨fun _ _ => rfl, fun _ _ _ _ => rfl⟩
theorem MS_t (h1 : MS v u) (h2 : MS u q) : MS v q := ⟨fun a b => (h2.1 a b).trans (h1.1 a b), fun k b c d => (h2.2 k b c d).trans (h1.2 k b c d)⟩
theorem MS_A (h : MA v q) : MS v q := ⟨fun a b => h.1 a (by omega) (by omega) (by omega) (by omega) (by omega), fun k _ c d => h.2 k c d⟩
theorem MS_E (h : ME v q) : MS v q := MS_A (MA_E h)
theorem MS_I (h : IS v q) : MS v q := ⟨fun a b => h.1 a (by omega), fun k b _ _ => h.2 k (Or.inl b)⟩
theorem MS_w {a j : Nat} (h : MS v u) (ha : a = 216 ∨ a = 217 ∨ a = 218) : MS v (pd_w u a j x) := ⟨fun b hb => by rw [pd_wa (by omega)]; exact h.1 b hb, fun i b c d => by rw [pd_w_ne (by omega)]; exact h.2 i b c d⟩
theorem MS_k {j : Nat} (h : MS v u) (hj : 23 ≤ j) : MS v (pd_w u 198 j x) := ⟨fun b hb => by rw [pd_wa (by omega)]; exact h.1 b hb, fun i b c d => by rw [pd_w_nk (by omega)]; exact h.2 i b c d⟩
theorem TX_S (h : TX n s v) (e : MS v q) : TX n s q := ⟨by rw [e.2 4 (by decide) (by decide) (by decide)]; exact h.1, fun j hj => by rw [e.1 200 (by omega)]; exact h.2 j hj⟩
theorem MK_e (h : MK v k) (e : q 216 = v 216) : MK q k := by
  induction k with
  | nil => exact trivial
  | cons x k ih =>
    obtain ⟨a, m⟩ := x
    exact ⟨by rw [e]; exact h.1, ih h.2⟩
theorem MK_w {j : Nat} (h : MK v k) (hj : k.length ≤ j) : MK (pd_w v 216 j x) k := by
  induction k with
  | nil => exact trivial
  | cons y k ih =>
    obtain ⟨a, m⟩ := y
    have hj' : k.length + 1 ≤ j := hj
    exact ⟨by rw [pd_w_nk (by omega)]; exact h.1, ih h.2 (by omega)⟩
theorem is_m {y : Int32} : ∀ (f l : Nat) (v : pd_V), l ≤ 8 → 8 - l < f → Sf (d_Mo_issues_35 w f y (Int32.ofNat l) v) (fun r => r.1 ≠ 0 ∧ IS v r.2 ∧ r.2 198 23 = v 198 23) := by
  intro f
  induction f with
  | zero => intro l v _ h; exact absurd h (Nat.not_lt_zero _)
  | succ f ih =>
    intro l v hl hf
    rw [d_Mo_issues_35, decide_eq_decide.mpr (lane8 hl)]
    refine sf_d (fun _ => sf_some ⟨show (1 : Int32) ≠ 0 from by decide, ⟨fun _ _ => rfl, fun _ _ => rfl⟩, rfl⟩) (fun c => ?_)
    rw [ofN1 l]
    refine sf_mono (ih (l + 1) _ (by omega) (by omega)) (fun r hr => ⟨hr.1, ⟨fun a ha => by rw [hr.2.1.1 a ha, pd_wa ha], fun i hi => by rw [hr.2.1.2 i hi, pd_w_nk (by omega)]⟩, by rw [hr.2.2, pd_w_nk (by decide)]⟩)
theorem is_t {y : Int32} (hw : 4294967296 < w) : Sf (d_Mo_issues w y v) (fun r => IS v r.2 ∧ (r.1 ≠ 0 → r.2 198 23 = v 198 23 + 1 ∧ v 198 23 ≠ v 198 22)) := by
  unfold d_Mo_issues
  refine sf_n (fun c => ?_) (fun c => ?_)
  · refine sf_mono (is_m w 0 _ (by omega) (by omega)) (fun r hr => ⟨⟨fun a ha => by rw [hr.2.1.1 a ha, pd_wa ha], fun i hi => by rw [hr.2.1.2 i hi, pd_w_nk (by omega)]⟩, fun _ => ⟨by rw [hr.2.2, pd_w_self], c⟩⟩)
  · exact sf_some ⟨⟨fun a ha => by show pd_w (pd_w v 198 25 _) 198 26 y a = _; rw [pd_wa ha, pd_wa ha], fun i hi => by show pd_w (pd_w v 198 25 _) 198 26 y 198 i = _; rw [pd_w_nk (by omega), pd_w_nk (by omega)]⟩, fun h => absurd rfl h⟩
/-! to the end of a statement, of a head, of a block -/
theorem lt_n {c : Int32} (h0 : ∀ j, n ≤ j → s j = 0) (h : s p = c) (hc : c ≠ 0) : p < n := by
  rcases Nat.lt_or_ge p n with q | q
  · exact q
  · rw [h0 p q] at h
    exact absurd h.symm hc
theorem su_t (hw : 4294967296 < w) (hn : n ≤ 160) (hT : ∀ j, j < n → v l j = s j) (he : e < n) (hs : s e = 59) (hg : xrg s p e) : d_Mo_upTo w l 160 (Int32.ofNat p) (59 : Int32) (59 : Int32) v = some (Int32.ofNat e) :=
  up_t hw (by omega) ((hT e he).trans hs) hg.1 (fun j a b => by rw [hT j (by omega)]; exact (hg.2 j a b).2.2.1)
theorem hu_t (hw : 4294967296 < w) (hn : n ≤ 160) (hT : ∀ j, j < n → v l j = s j) (he : e < n) (hs : s e = 123) (hg : xrg s p e) : d_Mo_upTo w l 160 (Int32.ofNat p) (123 : Int32) (123 : Int32) v = some (Int32.ofNat e) :=
  up_t hw (by omega) ((hT e he).trans hs) hg.1 (fun j a b => by rw [hT j (by omega)]; exact (hg.2 j a b).1)
theorem sk_t {o : Nat} {b : Nat × Nat} (hw : 4294967296 < w) (hn : n ≤ 160) (h0 : ∀ j, n ≤ j → s j = 0) (hW : xR s n []) (ho : s o = 123) (hR : xR s (o + 1) (b :: k0)) : ∃ c, o < c ∧ c < n ∧ s c = 125 ∧ xR s c (b :: k0) ∧ ∀ (v : pd_V) (l : Nat), (∀ j, j < n → v l j = s j) → d_Mo_behind w l 160 (Int32.ofNat o) v = some (Int32.ofNat (c + 1)) := by
  obtain ⟨c, q1, q2, q3, q4, f0, q5, q6⟩ := xskip h0 hW (n + 1) [] (o + 1) b k0 (by omega) hR
  refine ⟨c, by omega, q2, q3, q4, fun v l hT => ?_⟩
  unfold d_Mo_behind
  refine bh_m hn q2 hT (f0 + 1) 0 o w ?_ (by omega) (by omega)
  rw [xbh_o ho]
  have := q6 0
  rw [Nat.zero_add] at this
  exact this
theorem xcl_e {h m : Nat} (hc : s p = 125) (hm : m = 1) (hs : s (p + 1) = 123) (hR : xR s p ((h, m) :: k0)) : xR s (p + 2) ((h, 2) :: k0) := by
  refine xR_s hR ?_
  unfold xns
  rw [hc, hm, hs]
  rfl
theorem xcl_n {h m : Nat} (hc : s p = 125) (hm : ¬ (m = 1 ∧ s (p + 1) = 123)) (hR : xR s p ((h, m) :: k0)) : xR s (p + 1) k0 := by
  refine xR_s hR ?_
  unfold xns
  rw [hc]
  show (bif Nat.beq m 1 && decide (s (p + 1) = 123) then _ else (true, p + 1, k0)) = _
  have e : (Nat.beq m 1 && decide (s (p + 1) = 123)) = false := by
    by_cases c1 : m = 1
    · have c2 : s (p + 1) ≠ 123 := fun q => hm ⟨c1, q⟩
      rw [decide_eq_false c2, Bool.and_false]
    · have : Nat.beq m 1 = false := by
        cases q : Nat.beq m 1
        · rfl
        · exact absurd (Nat.eq_of_beq_eq_true q) c1
      rw [this, Bool.false_and]
  rw [e]
  rfl
/-- a head, and where its blocks end -/
theorem hd_f {r : Nat} (h0 : ∀ j, n ≤ j → s j = 0) (hR : xR s p k) (hs : s p = 63 ∨ s p = 42) (hE : xE s (p + 1) = (true, r)) (h4 : k.length < 4) (hr : s r = 123) : p < r ∧ r < n ∧ xrg s p r ∧ xR s (r + 1) ((p, bif decide (s p = 63) then 1 else 0) :: k) := by
  have g := xE_g hE
  have o : xok (s p) := by rcases hs with h | h <;> (rw [h]; unfold xok; decide)
  exact ⟨by omega, lt_n h0 hr (by decide), xrg_s o g.1, xR_s hR (xns_b hs hE h4 hr)⟩
theorem ba_t {r : Nat} (hw : 4294967296 < w) (hn : n ≤ 160) (h0 : ∀ j, n ≤ j → s j = 0) (hW : xR s n []) (hR : xR s p k) (hs : s p = 63 ∨ s p = 42) (hE : xE s (p + 1) = (true, r)) (h4 : k.length < 4) (hr : s r = 123) : ∃ z, p < z ∧ z ≤ n ∧ xR s z k ∧ ∀ v, TX n s v → d_Mo_behindAll w (Int32.ofNat p) v = some (Int32.ofNat z) := by
  obtain ⟨g1, g2, g3, g4⟩ := hd_f h0 hR hs hE h4 hr
  obtain ⟨c, c1, c2, c3, c4, c5⟩ := sk_t hw hn h0 hW hr g4
  by_cases d : s p = 63 ∧ s (c + 1) = 123
  · obtain ⟨d1, d2⟩ := d
    have d3 := lt_n h0 d2 (by decide)
    rw [decide_eq_true d1] at c4
    have c6 := xcl_e c3 rfl d2 c4
    obtain ⟨b, b1, b2, b3, b4, b5⟩ := sk_t hw hn h0 hW d2 c6
    refine ⟨b + 1, by omega, by omega, xcl_n b3 (by omega) b4, fun v hT => ?_⟩
    unfold d_Mo_behindAll
    rw [hu_t hw hn hT.2 g2 hr g3]
    show (d_Mo_behind w 200 160 (Int32.ofNat r) v).bind _ = _
    rw [c5 v 200 hT.2]
    show (bif pm_in (Int32.ofNat p) 160 then (bif !(decide (v 200 (Int32.ofNat p).toNatClampNeg = (63 : Int32))) then _ else (bif decide (v 198 4 ≤ Int32.ofNat (c + 1)) then _ else (bif pm_in (Int32.ofNat (c + 1)) 160 then (bif !(decide (v 200 (Int32.ofNat (c + 1)).toNatClampNeg = (123 : Int32))) then _ else _) else none))) else none) = _
    rw [in_nat (show p < 160 by omega) (by omega), cl_nat (show p ≤ 1000 by omega), hT.2 p (by omega), decide_eq_true d1, hT.1, le_nat (by omega) (by omega), decide_eq_false (show ¬ n ≤ c + 1 by omega), in_nat (show c + 1 < 160 by omega) (by omega), cl_nat (show c + 1 ≤ 1000 by omega), hT.2 (c + 1) (by omega), decide_eq_true d2, b5 v 200 hT.2]
    rfl
  · refine ⟨c + 1, by omega, by omega, xcl_n c3 (fun q => d ?_) c4, fun v hT => ?_⟩
    · refine ⟨?_, q.2⟩
      by_cases z : s p = 63
      · exact z
      · rw [decide_eq_false z] at q
        exact absurd q.1 (by decide)
    · unfold d_Mo_behindAll
      rw [hu_t hw hn hT.2 g2 hr g3]
      show (d_Mo_behind w 200 160 (Int32.ofNat r) v).bind _ = _
      rw [c5 v 200 hT.2]
      show (bif pm_in (Int32.ofNat p) 160 then (bif !(decide (v 200 (Int32.ofNat p).toNatClampNeg = (63 : Int32))) then some (Int32.ofNat (c + 1)) else (bif decide (v 198 4 ≤ Int32.ofNat (c + 1)) then some (Int32.ofNat (c + 1)) else (bif pm_in (Int32.ofNat (c + 1)) 160 then (bif !(decide (v 200 (Int32.ofNat (c + 1)).toNatClampNeg = (123 : Int32))) then some (Int32.ofNat (c + 1)) else _) else none))) else none) = _
      rw [in_nat (show p < 160 by omega) (by omega), cl_nat (show p ≤ 1000 by omega), hT.2 p (by omega)]
      by_cases z : s p = 63
      · have z2 : s (c + 1) ≠ 123 := fun q => d ⟨z, q⟩
        rw [decide_eq_true z, hT.1, le_nat (by omega) (by omega)]
        by_cases y : n ≤ c + 1
        · rw [decide_eq_true y]
          rfl
        · rw [decide_eq_false y, in_nat (show c + 1 < 160 by omega) (by omega), cl_nat (show c + 1 ≤ 1000 by omega), hT.2 (c + 1) (by omega), decide_eq_false z2]
          rfl
      · rw [decide_eq_false z]
        rfl
/-! where a run stands -/
def AI (s : Nat → Int32) (n z : Nat) (k : xK) (v : pd_V) : Prop := z ≤ n ∧ xR s z k ∧ v 198 35 = Int32.ofNat k.length ∧ MK v k
theorem AI_e {z : Nat} (h : AI s n z k v) (e1 : q 216 = v 216) (e2 : q 198 35 = v 198 35) : AI s n z k q := ⟨h.1, h.2.1, e2.trans h.2.2.1, MK_e h.2.2.2 e1⟩
theorem gi_t {z h m : Nat} {b c d y : Int32} (hz : z + 1 ≤ n) (hR : xR s (z + 1) ((h, m) :: k)) (h35 : v 198 35 = Int32.ofNat k.length) (hM : MK v k) (hk : k.length < 4) (hb : b = xmk h m) : Sf (d_Mo_goInto b c d y (Int32.ofNat z) v) (fun r => r.1 = Int32.ofNat (z + 1) ∧ AI s n (z + 1) ((h, m) :: k) r.2 ∧ MS v r.2 ∧ r.2 207 = v 207 ∧ r.2 198 23 = v 198 23) := by
  unfold d_Mo_goInto
  rw [h35, cl_nat (by omega)]
  have i5 : pm_in (Int32.ofNat k.length) 5 = true := in_nat (by omega) (by omega)
  refine sf_c i5 (sf_c i5 (sf_c i5 (sf_some ⟨ofN1 z, ⟨hz, hR, ?_, ?_⟩, MS_k (MS_k (MS_w (MS_w (MS_w MS_r (by omega)) (by omega)) (by omega)) (by decide)) (by decide), ?_, ?_⟩)))
  · show (pd_w (pd_w (pd_w (pd_w (pd_w v 216 k.length b) 217 k.length c) 218 k.length d) 198 35 (Int32.ofNat k.length + (1 : Int32))) 198 36 y) 198 35 = Int32.ofNat (k.length + 1)
    rw [pd_w_nk (by decide), pd_w_self, ofN1]
  · have e : ∀ u : pd_V, pd_w (pd_w (pd_w (pd_w u 217 k.length c) 218 k.length d) 198 35 (Int32.ofNat k.length + (1 : Int32))) 198 36 y 216 = u 216 := fun u => by
      rw [pd_wa (by decide), pd_wa (by decide), pd_wa (by decide), pd_wa (by decide)]
    refine MK_e (v := pd_w v 216 k.length b) (k := (h, m) :: k) ⟨?_, MK_w hM (Nat.le_refl _)⟩ (e _)
    rw [pd_w_self]
    exact hb
  · show (pd_w (pd_w (pd_w (pd_w (pd_w v 216 k.length b) 217 k.length c) 218 k.length d) 198 35 (Int32.ofNat k.length + (1 : Int32))) 198 36 y) 207 = v 207
    rw [pd_wa (by decide), pd_wa (by decide), pd_wa (by decide), pd_wa (by decide), pd_wa (by decide)]
  · show (pd_w (pd_w (pd_w (pd_w (pd_w v 216 k.length b) 217 k.length c) 218 k.length d) 198 35 (Int32.ofNat k.length + (1 : Int32))) 198 36 y) 198 23 = v 198 23
    rw [pd_w_nk (by decide), pd_w_nk (by decide), pd_w_ne (by decide), pd_w_ne (by decide), pd_w_ne (by decide)]
theorem gO_t {z : Nat} {b : Nat × Nat} (hz : z ≤ n) (hR : xR s z k) (h35 : v 198 35 = Int32.ofNat (k.length + 1)) (hM : MK v k) (hk : k.length ≤ 4) : Sf (d_Mo_goOut (Int32.ofNat z) v) (fun r => r.1 = Int32.ofNat z ∧ AI s n z k r.2 ∧ MS v r.2 ∧ r.2 207 = v 207 ∧ r.2 198 23 = v 198 23) := by
  unfold d_Mo_goOut
  rw [h35, dec_ofNat]
  refine sf_c (in_nat (by omega) (by omega)) (sf_some ⟨rfl, ⟨hz, hR, ?_, ?_⟩, MS_k (MS_k MS_r (by decide)) (by decide), ?_, ?_⟩)
  · show (pd_w (pd_w v 198 35 (Int32.ofNat k.length)) 198 36 (v 217 (Int32.ofNat k.length).toNatClampNeg)) 198 35 = Int32.ofNat k.length
    rw [pd_w_nk (by decide), pd_w_self]
  · refine MK_e hM ?_
    show (pd_w (pd_w v 198 35 (Int32.ofNat k.length)) 198 36 (v 217 (Int32.ofNat k.length).toNatClampNeg)) 216 = v 216
    rw [pd_wa (by decide), pd_wa (by decide)]
  · show (pd_w (pd_w v 198 35 (Int32.ofNat k.length)) 198 36 (v 217 (Int32.ofNat k.length).toNatClampNeg)) 207 = v 207
    rw [pd_wa (by decide), pd_wa (by decide)]
  · show (pd_w (pd_w v 198 35 (Int32.ofNat k.length)) 198 36 (v 217 (Int32.ofNat k.length).toNatClampNeg)) 198 23 = v 198 23
    rw [pd_w_nk (by decide), pd_w_nk (by decide)]
end AL
