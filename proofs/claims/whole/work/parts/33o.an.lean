/-! the reference's run of each lane alone: one lane -/
def LM (l : Nat) (v : pd_V) : xK → Prop
  | [] => True
  | (h, m) :: k => v 212 (5 * l + k.length) = xmk h m ∧ LM l v k
def zLS (s : Nat → Int32) (l p : Nat) (k : xK) (v : pd_V) : Prop := v 210 l = Int32.ofNat p ∧ xR s p k ∧ v 211 l = Int32.ofNat k.length ∧ LM l v k
def LI (s : Nat → Int32) (l : Nat) (v : pd_V) : Prop := ∃ p k, zLS s l p k v
def MB (v q : pd_V) : Prop := (∀ a, (a < 198 ∨ 199 ≤ a ∧ a ≤ 203) → q a = v a) ∧ (∀ k, k < 23 → k ≠ 6 → k ≠ 19 → q 198 k = v 198 k)
/-- the other lanes -/
def OL (l : Nat) (v q : pd_V) : Prop := ∀ j, j < 8 → j ≠ l → q 210 j = v 210 j ∧ q 211 j = v 211 j ∧ q 215 j = v 215 j ∧ ∀ i, i < 5 → q 212 (5 * j + i) = v 212 (5 * j + i)
section AN
variable {s : Nat → Int32} {n w : Nat} {v u q : pd_V} {p l : Nat} {x : Int32} {k k0 : xK}
theorem MB_r : MB v v := ⟨fun _ _ => rfl, fun _ _ _ _ => rfl⟩
theorem MB_t (h1 : MB v u) (h2 : MB u q) : MB v q := ⟨fun a b => (h2.1 a b).trans (h1.1 a b), fun k b c d => (h2.2 k b c d).trans (h1.2 k b c d)⟩
theorem MB_A (h : MA v q) : MB v q := ⟨fun a b => h.1 a (by omega) (by omega) (by omega) (by omega) (by omega), fun k _ c d => h.2 k c d⟩
theorem MB_w {a j : Nat} (h : MB v u) (ha : 204 ≤ a) : MB v (pd_w u a j x) := ⟨fun b hb => by rw [pd_wa (by omega)]; exact h.1 b hb, fun i b c d => by rw [pd_w_ne (by omega)]; exact h.2 i b c d⟩
theorem MB_k {j : Nat} (h : MB v u) (hj : 23 ≤ j) : MB v (pd_w u 198 j x) := ⟨fun b hb => by rw [pd_wa (by omega)]; exact h.1 b hb, fun i b c d => by rw [pd_w_nk (by omega)]; exact h.2 i b c d⟩
theorem TX_B (h : TX n s v) (e : MB v q) : TX n s q := ⟨by rw [e.2 4 (by decide) (by decide) (by decide)]; exact h.1, fun j hj => by rw [e.1 200 (by omega)]; exact h.2 j hj⟩
theorem OL_r : OL l v v := fun _ _ _ => ⟨rfl, rfl, rfl, fun _ _ => rfl⟩
theorem OL_t (h1 : OL l v u) (h2 : OL l u q) : OL l v q := fun j a b => ⟨(h2 j a b).1.trans (h1 j a b).1, (h2 j a b).2.1.trans (h1 j a b).2.1, (h2 j a b).2.2.1.trans (h1 j a b).2.2.1, fun i c => ((h2 j a b).2.2.2 i c).trans ((h1 j a b).2.2.2 i c)⟩
theorem OL_e (h1 : q 210 = v 210) (h2 : q 211 = v 211) (h3 : q 212 = v 212) (h4 : q 215 = v 215) : OL l v q := fun j _ _ => ⟨by rw [h1], by rw [h2], by rw [h4], fun i _ => by rw [h3]⟩
theorem OL_A (h : MA v q) : OL l v q := OL_e (h.1 210 (by decide) (by omega) (by decide) (by decide) (by omega)) (h.1 211 (by decide) (by omega) (by decide) (by decide) (by omega)) (h.1 212 (by decide) (by omega) (by decide) (by decide) (by omega)) (h.1 215 (by decide) (by omega) (by decide) (by decide) (by omega))
theorem OL_w {a i : Nat} (h : OL l v u) (ha : a ≠ 210 ∧ a ≠ 211 ∧ a ≠ 212 ∧ a ≠ 215) : OL l v (pd_w u a i x) := OL_t h (OL_e (pd_wa (by omega)) (pd_wa (by omega)) (pd_wa (by omega)) (pd_wa (by omega)))
theorem OL_l {a : Nat} (h : OL l v u) (ha : a = 210 ∨ a = 211 ∨ a = 215) : OL l v (pd_w u a l x) := OL_t h (fun j _ b => by
  rcases ha with e | e | e <;> subst e
  · exact ⟨pd_w_nk b, pd_w_ne (by decide), pd_w_ne (by decide), fun i _ => pd_w_ne (by decide)⟩
  · exact ⟨pd_w_ne (by decide), pd_w_nk b, pd_w_ne (by decide), fun i _ => pd_w_ne (by decide)⟩
  · exact ⟨pd_w_ne (by decide), pd_w_ne (by decide), pd_w_nk b, fun i _ => pd_w_ne (by decide)⟩)
theorem OL_2 {i : Nat} (h : OL l v u) (hi : 5 * l ≤ i ∧ i < 5 * l + 5) : OL l v (pd_w u 212 i x) := OL_t h (fun j _ b => ⟨pd_w_ne (by decide), pd_w_ne (by decide), pd_w_ne (by decide), fun c hc => pd_w_nk (by omega)⟩)
theorem LM_e (h : LM l v k) (e : ∀ i, i < k.length → q 212 (5 * l + i) = v 212 (5 * l + i)) : LM l q k := by
  induction k with
  | nil => exact trivial
  | cons y k ih =>
    obtain ⟨a, m⟩ := y
    exact ⟨by rw [e _ (by show k.length < k.length + 1; omega)]; exact h.1, ih h.2 (fun i hi => e i (by show i < k.length + 1; omega))⟩
theorem zLS_e (h : zLS s l p k v) (e1 : q 210 l = v 210 l) (e2 : q 211 l = v 211 l) (e3 : ∀ i, i < 5 → q 212 (5 * l + i) = v 212 (5 * l + i)) : zLS s l p k q := by
  have := xSI_4 (xR_SI h.2.1)
  exact ⟨e1.trans h.1, h.2.1, e2.trans h.2.2.1, LM_e h.2.2.2 (fun i hi => e3 i (by omega))⟩
theorem LI_o {j : Nat} (h : LI s j v) (hj : j < 8) (hl : j ≠ l) (e : OL l v q) : LI s j q := by
  obtain ⟨p, k, h⟩ := h
  exact ⟨p, k, zLS_e h (e j hj hl).1 (e j hj hl).2.1 (e j hj hl).2.2.2⟩
theorem mul5 {l d : Nat} (hl : l < 8) (hd : d ≤ 5) : ((5 : Int32) * Int32.ofNat l) + Int32.ofNat d = Int32.ofNat (5 * l + d) := by
  rw [Int32.ofNat_add, Int32.ofNat_mul]
  rfl
/-- out of a block -/
theorem lv_t {h m : Nat} (hw : 4294967296 < w) (hn : n ≤ 160) (h0 : ∀ j, n ≤ j → s j = 0) (hW : xR s n []) (hl : l < 8) (hT : TX n s v) (hs : s p = 125) (hS : zLS s l p ((h, m) :: k0) v) : Sf (d_Mo_leave w (Int32.ofNat l) v) (fun q => (∃ p2 k2, zLS s l p2 k2 q ∧ (p < p2 ∨ s p2 = 42)) ∧ MB v q ∧ OL l v q ∧ q 207 = v 207 ∧ q 209 = v 209 ∧ q 198 = v 198 ∧ q 215 = v 215) := by
  obtain ⟨a1, a2, a3, a4, a5⟩ := hS
  have k4 := xSI_4 (xR_SI a2)
  have k4 : k0.length + 1 ≤ 4 := k4
  have hp := lt_n h0 hs (by decide)
  obtain ⟨si1, si2, ⟨r, si3, si4⟩, si5, si6⟩ := xR_SI a2
  have hh := xR_le h0 hW si1
  have cl : (Int32.ofNat l).toNatClampNeg = l := cl_nat (by omega)
  have il : pm_in (Int32.ofNat l) 8 = true := in_nat hl (by omega)
  have a3' : v 211 l = Int32.ofNat (k0.length + 1) := a3
  have fin : ∀ (p2 : Nat), xR s p2 k0 → (p < p2 ∨ s p2 = 42) → (∃ p3 k2, zLS s l p3 k2 (pd_w (pd_w v 211 l (Int32.ofNat k0.length)) 210 l (Int32.ofNat p2)) ∧ (p < p3 ∨ s p3 = 42)) ∧ MB v (pd_w (pd_w v 211 l (Int32.ofNat k0.length)) 210 l (Int32.ofNat p2)) ∧ OL l v (pd_w (pd_w v 211 l (Int32.ofNat k0.length)) 210 l (Int32.ofNat p2)) ∧ pd_w (pd_w v 211 l (Int32.ofNat k0.length)) 210 l (Int32.ofNat p2) 207 = v 207 ∧ pd_w (pd_w v 211 l (Int32.ofNat k0.length)) 210 l (Int32.ofNat p2) 209 = v 209 ∧ pd_w (pd_w v 211 l (Int32.ofNat k0.length)) 210 l (Int32.ofNat p2) 198 = v 198 ∧ pd_w (pd_w v 211 l (Int32.ofNat k0.length)) 210 l (Int32.ofNat p2) 215 = v 215 := by
    intro p2 e1 e2
    refine ⟨⟨p2, k0, ⟨pd_w_self, e1, ?_, LM_e a5 (fun i _ => by rw [pd_w_ne (by decide), pd_w_ne (by decide)])⟩, e2⟩, MB_w (MB_w MB_r (by decide)) (by decide), OL_l (OL_l OL_r (by decide)) (by decide), ?_, ?_, ?_, ?_⟩
    · rw [pd_w_ne (by decide), pd_w_self]
    · rw [pd_wa (by decide), pd_wa (by decide)]
    · rw [pd_wa (by decide), pd_wa (by decide)]
    · rw [pd_wa (by decide), pd_wa (by decide)]
    · rw [pd_wa (by decide), pd_wa (by decide)]
  have top : Sf (d_Mo_top (Int32.ofNat l) v) (fun y => y = xmk h m) := by
    unfold d_Mo_top
    rw [cl, a3', mul5 hl (by omega), show 5 * l + (k0.length + 1) = (5 * l + k0.length) + 1 by omega, dec_ofNat, cl_nat (by omega), a4]
    exact sf_c il (sf_c (in_nat (by omega) (by omega)) (sf_some rfl))
  unfold d_Mo_leave
  refine sf_bind top (fun y hy => ?_)
  subst hy
  rw [cl, a1, a3', dec_ofNat, ofN1]
  refine sf_c il (sf_c il (sf_c il ?_))
  rcases si2 with ⟨m0, hs42⟩ | ⟨m1 | m2, hs63⟩
  · subst m0
    rw [xmk_0 (by omega)]
    exact sf_f (sf_c il (sf_some (fin h si1 (Or.inr hs42))))
  · subst m1
    rw [xmk_1, xmk_1e]
    refine sf_tt (sf_f ?_)
    rw [hT.1, le_nat (by omega) (by omega)]
    refine sf_d (fun c => sf_c il (sf_some (fin (p + 1) (xcl_n hs (fun q => by rw [h0 (p + 1) c] at q; exact absurd q.2 (by decide)) a2) (Or.inl (by omega))))) (fun c => ?_)
    refine sf_c (in_nat (by omega) (by omega)) ?_
    rw [cl_nat (show p + 1 ≤ 1000 by omega), hT.2 (p + 1) (by omega)]
    refine sf_n (fun c2 => sf_c il (sf_some (fin (p + 1) (xcl_n hs (fun q => c2 q.2) a2) (Or.inl (by omega))))) (fun c2 => ?_)
    have hR2 := xcl_e hs rfl c2 a2
    obtain ⟨b, b1, b2, b3, b4, b5⟩ := sk_t hw hn h0 hW c2 hR2
    rw [b5 _ 200 (fun j hj => by rw [pd_w_ne (by decide)]; exact hT.2 j hj)]
    show Sf (bif pm_in (Int32.ofNat l) 8 then some (pd_w (pd_w v 211 l (Int32.ofNat k0.length)) 210 l (Int32.ofNat (b + 1))) else none) _
    exact sf_c il (sf_some (fin (b + 1) (xcl_n b3 (by omega) b4) (Or.inl (by omega))))
  · subst m2
    rw [xmk_2, xmk_2e]
    exact sf_tt (sf_tt (sf_c il (sf_some (fin (p + 1) (xcl_n hs (by omega) a2) (Or.inl (by omega))))))
/-- into a block -/
theorem en_t {h m z : Nat} {y : Int32} (hl : l < 8) (hR : xR s z ((h, m) :: k)) (h211 : v 211 l = Int32.ofNat k.length) (hM : LM l v k) (hy : y = xmk h m) : Sf (d_Mo_enter (Int32.ofNat l) y (Int32.ofNat z) v) (fun q => zLS s l z ((h, m) :: k) q ∧ MB v q ∧ OL l v q ∧ q 207 = v 207 ∧ q 209 = v 209 ∧ q 198 = v 198 ∧ q 215 = v 215) := by
  have k4 := xSI_4 (xR_SI hR)
  have k4 : k.length + 1 ≤ 4 := k4
  have cl : (Int32.ofNat l).toNatClampNeg = l := cl_nat (by omega)
  have il : pm_in (Int32.ofNat l) 8 = true := in_nat hl (by omega)
  unfold d_Mo_enter
  rw [cl, h211, mul5 hl (by omega), cl_nat (show 5 * l + k.length ≤ 1000 by omega), ofN1]
  refine sf_c il (sf_c (in_nat (by omega) (by omega)) (sf_c il (sf_c il (sf_c il (sf_some ⟨⟨pd_w_self, hR, ?_, ?_, ?_⟩, MB_w (MB_w (MB_w MB_r (by decide)) (by decide)) (by decide), OL_l (OL_l (OL_2 OL_r (by omega)) (by decide)) (by decide), ?_, ?_, ?_, ?_⟩)))))
  · rw [pd_w_ne (by decide), pd_w_self]
    rfl
  · rw [pd_w_ne (by decide), pd_w_ne (by decide), pd_w_self]
    exact hy
  · exact LM_e hM (fun i hi => by rw [pd_w_ne (by decide), pd_w_ne (by decide), pd_w_nk (by omega)])
  · rw [pd_wa (by decide), pd_wa (by decide), pd_wa (by decide)]
  · rw [pd_wa (by decide), pd_wa (by decide), pd_wa (by decide)]
  · rw [pd_wa (by decide), pd_wa (by decide), pd_wa (by decide)]
  · rw [pd_wa (by decide), pd_wa (by decide), pd_wa (by decide)]
/-- what one step of a lane leaves: its place is a place again, the others stay -/
def SP (s : Nat → Int32) (l : Nat) (v q : pd_V) : Prop := (∃ p2 k2, zLS s l p2 k2 q) ∧ MB v q ∧ OL l v q ∧ PG (8 + l) v q ∧ q 198 28 = v 198 28 ∧ q 215 = v 215
theorem ch_t {r : Nat} (hw : 4294967296 < w) (hn : n ≤ 160) (h0 : ∀ j, n ≤ j → s j = 0) (hW : xR s n []) (hl : l < 8) (hT : TX n s v) (hS : zLS s l p k v) (hs : s p = 63 ∨ s p = 42) (hE : xE s (p + 1) = (true, r)) (h4 : k.length < 4) (hr : s r = 123) : Sf (d_Mo_choose w (Int32.ofNat (8 + l)) (Int32.ofNat l) (Int32.ofNat p) v) (SP s l v) := by
  obtain ⟨a1, a2, a3, a4⟩ := id hS
  obtain ⟨g1, g2, g3, g4⟩ := hd_f h0 a2 hs hE h4 hr
  obtain ⟨c, c1, c2, c3, c4, c5⟩ := sk_t hw hn h0 hW hr g4
  have cl : (Int32.ofNat l).toNatClampNeg = l := cl_nat (by omega)
  have il : pm_in (Int32.ofNat l) 8 = true := in_nat hl (by omega)
  have il2 : pm_in (Int32.ofNat (8 + l)) 16 = true := in_nat (by omega) (by omega)
  unfold d_Mo_choose
  rw [hu_t hw hn hT.2 g2 hr g3]
  show Sf ((d_Mo_behind w 200 160 (Int32.ofNat r) v).bind _) _
  rw [c5 v 200 hT.2, ofN1 p]
  show Sf ((d_Mo_valueOf w (Int32.ofNat (8 + l)) (Int32.ofNat (p + 1)) (Int32.ofNat p) v).bind _) _
  refine sf_bind (va_t (m := 4) (fx := 200) hw hn (by omega) (show 8 + l < 16 by omega) g2 (xdig_123 hr) (by omega) hT hE) (fun q3 h3 => ?_)
  have e3 := h3.1
  have A3 := MA_E e3
  have f210 : q3.2 210 = v 210 := e3.1 210 (by decide) (by decide) (by decide) (by omega)
  have f211 : q3.2 211 = v 211 := e3.1 211 (by decide) (by decide) (by decide) (by omega)
  have f212 : q3.2 212 = v 212 := e3.1 212 (by decide) (by decide) (by decide) (by omega)
  have f215 : q3.2 215 = v 215 := e3.1 215 (by decide) (by decide) (by decide) (by omega)
  have f28 : q3.2 198 28 = v 198 28 := e3.2 28 (by decide) (by decide)
  have hT3 := TX_E hT e3
  have S3 : zLS s l p k q3.2 := zLS_e hS (by rw [f210]) (by rw [f211]) (fun i _ => by rw [f212])
  have h211 : q3.2 211 l = Int32.ofNat k.length := S3.2.2.1
  have stay : SP s l v q3.2 := ⟨⟨p, k, S3⟩, MB_A A3, OL_A A3, PG_E e3, f28, f215⟩
  have jump : ∀ z, xR s z k → SP s l v (pd_w q3.2 210 l (Int32.ofNat z)) := fun z hz => ⟨⟨z, k, ⟨pd_w_self, hz, by rw [pd_w_ne (by decide)]; exact h211, LM_e S3.2.2.2 (fun i _ => pd_w_ne (by decide))⟩⟩, MB_w (MB_A A3) (by decide), OL_l (OL_A A3) (by decide), PG_w (PG_E e3) (by decide), by rw [pd_w_ne (by decide)]; exact f28, by rw [pd_wa (by decide)]; exact f215⟩
  have enter : ∀ {h m z : Nat} {y : Int32}, xR s z ((h, m) :: k) → y = xmk h m → Sf ((d_Mo_enter (Int32.ofNat l) y (Int32.ofNat z) q3.2).bind fun q14 => some q14) (SP s l v) := by
    intro h m z y e1 e2
    refine sf_bind (en_t hl e1 h211 S3.2.2.2 e2) (fun q hq => sf_some ⟨⟨z, _, hq.1⟩, MB_t (MB_A A3) hq.2.1, OL_t (OL_A A3) hq.2.2.1, ?_, ?_, ?_⟩)
    · have e207 : q 207 = v 207 := hq.2.2.2.1.trans (e3.1 207 (by decide) (by decide) (by decide) (by omega))
      exact ⟨fun j _ => by rw [e207], Or.inl (by rw [e207])⟩
    · rw [hq.2.2.2.2.2.1]; exact f28
    · exact hq.2.2.2.2.2.2.trans f215
  refine sf_c il2 ?_
  refine sf_d (fun _ => ?_) (fun _ => sf_some stay)
  refine sf_c (in_nat (by omega) (by omega)) ?_
  rw [cl_nat (show p ≤ 1000 by omega), hT3.2 p (by omega), cl]
  refine sf_n (fun c42 => ?_) (fun c42 => ?_)
  · have c63 : s p = 63 := hs.resolve_right c42
    rw [decide_eq_true c63] at g4 c4
    refine sf_d (fun _ => ?_) (fun _ => ?_)
    · rw [hT3.1, le_nat (by omega) (by omega)]
      refine sf_d (fun cz => sf_c il (sf_some (jump (c + 1) (xcl_n c3 (fun q => by rw [h0 (c + 1) cz] at q; exact absurd q.2 (by decide)) c4)))) (fun cz => ?_)
      refine sf_c (in_nat (by omega) (by omega)) ?_
      rw [cl_nat (show c + 1 ≤ 1000 by omega), hT3.2 (c + 1) (by omega)]
      refine sf_n (fun c2' => sf_c il (sf_some (jump (c + 1) (xcl_n c3 (fun q => c2' q.2) c4)))) (fun c2' => ?_)
      rw [ofN1 (c + 1)]
      exact enter (xcl_e c3 rfl c2' c4) rfl
    · rw [ofN1 r]
      exact enter g4 rfl
  · rw [show decide (s p = 63) = false from decide_eq_false (by rw [c42]; decide)] at g4 c4
    refine sf_d (fun _ => ?_) (fun _ => ?_)
    · exact sf_c il (sf_some (jump (c + 1) (xcl_n c3 (fun q => absurd q.1 (by decide)) c4)))
    · rw [ofN1 r]
      exact enter g4 rfl
end AN
