/-! the reference's run in step: blocks -/
section AL2
variable {s : Nat → Int32} {n w : Nat} {v u q : pd_V} {p e l : Nat} {x : Int32} {k k0 : xK}
def SPo (s : Nat → Int32) (n : Nat) (v : pd_V) (r : Int32 × pd_V) : Prop := ∃ z k', r.1 = Int32.ofNat z ∧ AI s n z k' r.2 ∧ MS v r.2 ∧ r.2 207 = v 207 ∧ r.2 198 23 = v 198 23
/-- a head, the end of its first block, the end of all its blocks -/
theorem bb_t {r : Nat} (hw : 4294967296 < w) (hn : n ≤ 160) (h0 : ∀ j, n ≤ j → s j = 0) (hW : xR s n []) (hR : xR s p k) (hs : s p = 63 ∨ s p = 42) (hE : xE s (p + 1) = (true, r)) (h4 : k.length < 4) (hr : s r = 123) : ∃ c z, (p < c ∧ c < n ∧ s c = 125 ∧ xR s c ((p, bif decide (s p = 63) then 1 else 0) :: k) ∧ ∀ (v : pd_V) (l : Nat), (∀ j, j < n → v l j = s j) → d_Mo_behind w l 160 (Int32.ofNat r) v = some (Int32.ofNat (c + 1))) ∧ (p < z ∧ z ≤ n ∧ xR s z k ∧ ∀ v, TX n s v → d_Mo_behindAll w (Int32.ofNat p) v = some (Int32.ofNat z)) ∧ (z = c + 1 ∨ (s p = 63 ∧ s (c + 1) = 123)) := by
  obtain ⟨g1, g2, g3, g4⟩ := hd_f h0 hR hs hE h4 hr
  obtain ⟨c, c1, c2, c3, c4, c5⟩ := sk_t hw hn h0 hW hr g4
  obtain ⟨z, z1, z2, z3, z4⟩ := ba_t hw hn h0 hW hR hs hE h4 hr
  refine ⟨c, z, ⟨by omega, c2, c3, c4, c5⟩, ⟨z1, z2, z3, z4⟩, ?_⟩
  by_cases d : s p = 63 ∧ s (c + 1) = 123
  · exact Or.inr d
  · left
    have hT : TX n s (fun a j => if a = 198 then Int32.ofNat n else s j) := ⟨rfl, fun j _ => rfl⟩
    have hT2 : ∀ j, j < n → (fun a j => if a = 198 then Int32.ofNat n else s j : pd_V) 200 j = s j := fun j _ => rfl
    have e1 := z4 _ hT
    unfold d_Mo_behindAll at e1
    rw [hu_t hw hn hT2 g2 hr g3] at e1
    have e2 : (d_Mo_behind w 200 160 (Int32.ofNat r) (fun a j => if a = 198 then Int32.ofNat n else s j)).bind _ = _ := e1
    rw [c5 _ 200 hT2] at e2
    have e3 : (bif pm_in (Int32.ofNat p) 160 then (bif !(decide (s (Int32.ofNat p).toNatClampNeg = (63 : Int32))) then some (Int32.ofNat (c + 1)) else (bif decide (Int32.ofNat n ≤ Int32.ofNat (c + 1)) then some (Int32.ofNat (c + 1)) else (bif pm_in (Int32.ofNat (c + 1)) 160 then (bif !(decide (s (Int32.ofNat (c + 1)).toNatClampNeg = (123 : Int32))) then some (Int32.ofNat (c + 1)) else _) else none))) else none) = some (Int32.ofNat z) := e2
    rw [in_nat (show p < 160 by omega) (by omega), cl_nat (show p ≤ 1000 by omega)] at e3
    have fin : some (Int32.ofNat (c + 1)) = some (Int32.ofNat z) → z = c + 1 := fun h => by
      have h2 := Option.some.inj h
      have h3 := cl_nat (a := c + 1) (by omega)
      rw [h2, cl_nat (by omega)] at h3
      exact h3
    by_cases y : s p = 63
    · have y2 : s (c + 1) ≠ 123 := fun q => d ⟨y, q⟩
      rw [decide_eq_true y, le_nat (by omega) (by omega)] at e3
      by_cases y3 : n ≤ c + 1
      · rw [decide_eq_true y3] at e3
        exact fin e3
      · rw [decide_eq_false y3, in_nat (show c + 1 < 160 by omega) (by omega), cl_nat (show c + 1 ≤ 1000 by omega), decide_eq_false y2] at e3
        exact fin e3
    · rw [decide_eq_false y] at e3
      exact fin e3
theorem pa_t {r : Nat} {y : Int32} (hw : 4294967296 < w) (hn : n ≤ 160) (h0 : ∀ j, n ≤ j → s j = 0) (hW : xR s n []) (hR : xR s p k) (hs : s p = 63 ∨ s p = 42) (hE : xE s (p + 1) = (true, r)) (h4 : k.length < 4) (hr : s r = 123) (hT : TX n s v) (h35 : v 198 35 = Int32.ofNat k.length) (hM : MK v k) : Sf (d_Mo_parts w (Int32.ofNat p) y v) (SPo s n v) := by
  obtain ⟨g1, g2, g3, g4⟩ := hd_f h0 hR hs hE h4 hr
  obtain ⟨c, z, ⟨c1, c2, c3, c4, c5⟩, ⟨z1, z2, z3, z4⟩, hz⟩ := bb_t hw hn h0 hW hR hs hE h4 hr
  unfold d_Mo_parts
  rw [hu_t hw hn hT.2 g2 hr g3, ofN1]
  show Sf ((d_Mo_truth w y (Int32.ofNat (p + 1)) (Int32.ofNat p) v).bind _) _
  refine sf_bind (tr_t hw hn g2 (xdig_123 hr) hE hT) (fun q2 h2 => ?_)
  have hT2 := TX_E hT h2
  have e35 : q2.2 198 35 = Int32.ofNat k.length := (h2.2 35 (by decide) (by decide)).trans h35
  have eM : MK q2.2 k := MK_e hM (h2.1 216 (by decide) (by decide) (by decide) (by omega))
  have e207 : q2.2 207 = v 207 := h2.1 207 (by decide) (by decide) (by decide) (by omega)
  have e23 : q2.2 198 23 = v 198 23 := h2.2 23 (by decide) (by decide)
  have into : ∀ {z' h' m' : Nat} {b' c' d' y' : Int32}, z' + 1 ≤ n → xR s (z' + 1) ((h', m') :: k) → b' = xmk h' m' → Sf ((d_Mo_goInto b' c' d' y' (Int32.ofNat z') q2.2).bind fun q13 => some (q13.1, q13.2)) (SPo s n v) := by
    intro z' h' m' b' c' d' y' a1 a2 a3
    refine sf_bind (gi_t a1 a2 e35 eM h4 a3) (fun r3 h3 => sf_some ⟨z' + 1, _, h3.1, h3.2.1, MS_t (MS_E h2) h3.2.2.1, h3.2.2.2.1.trans e207, h3.2.2.2.2.trans e23⟩)
  have over : Sf ((d_Mo_behindAll w (Int32.ofNat p) q2.2).bind fun q9 => some (q9, q2.2)) (SPo s n v) := by
    rw [z4 _ hT2]
    exact sf_some ⟨z, k, rfl, ⟨z2, z3, e35, eM⟩, MS_E h2, e207, e23⟩
  refine sf_c (in_nat (by omega) (by omega)) ?_
  rw [cl_nat (show p ≤ 1000 by omega), hT2.2 p (by omega)]
  refine sf_n (fun c42 => ?_) (fun c42 => ?_)
  · have c63 : s p = 63 := hs.resolve_right c42
    rw [decide_eq_true c63] at g4 c4
    refine sf_bind (go_t hw) (fun q5 _ => ?_)
    refine sf_d (fun _ => ?_) (fun _ => into (by omega) g4 rfl)
    rw [c5 _ 200 hT2.2]
    show Sf (bif decide ((q5 &&& (q2.1 ^^^ (-1 : Int32))) = 0) then _ else _) _
    refine sf_d (fun _ => over) (fun _ => ?_)
    rw [z4 _ hT2]
    show Sf (bif decide (Int32.ofNat z ≤ Int32.ofNat (c + 1)) then ((some (Int32.ofNat z)).bind fun q12 => some (q12, q2.2)) else _) _
    rw [le_nat (by omega) (by omega)]
    refine sf_d (fun _ => sf_some ⟨z, k, rfl, ⟨z2, z3, e35, eM⟩, MS_E h2, e207, e23⟩) (fun cz => ?_)
    have h123 : s (c + 1) = 123 := by
      rcases hz with hz | hz
      · omega
      · exact hz.2
    have := lt_n h0 h123 (by decide)
    exact into (by omega) (xcl_e c3 rfl h123 c4) rfl
  · rw [show decide (s p = 63) = false from decide_eq_false (by rw [c42]; decide)] at g4
    exact sf_n (fun _ => into (by omega) g4 rfl) (fun _ => over)
/-! the end of a block -/
def QPo (s : Nat → Int32) (n p : Nat) (v : pd_V) (r : Int32 × pd_V) : Prop := (r.1 = -1 ∧ MS v r.2) ∨ ∃ z k', r.1 = Int32.ofNat z ∧ AI s n z k' r.2 ∧ MS v r.2 ∧ r.2 207 = v 207 ∧ ((r.2 198 23 = v 198 23 ∧ p < z) ∨ (r.2 198 23 = v 198 23 + 1 ∧ v 198 23 ≠ v 198 22))
theorem xmk_0 {h : Nat} (hh : h ≤ 1000) : decide (xmk h 0 < 0) = false := by
  show decide (Int32.ofNat h < (0 : Int32)) = false
  rw [show (0 : Int32) = Int32.ofNat 0 from rfl, lt_nat hh (by omega)]
  exact decide_eq_false (by omega)
theorem xmk_1 {h : Nat} : decide (xmk h 1 < 0) = true := by
  show decide ((-1 : Int32) < 0) = true
  decide
theorem xmk_1e {h : Nat} : decide (xmk h 1 = (-1 : Int32)) = true := by
  show decide ((-1 : Int32) = (-1 : Int32)) = true
  decide
theorem xmk_2 {h : Nat} : decide (xmk h 2 < 0) = true := by
  show decide ((-2 : Int32) < 0) = true
  decide
theorem xmk_2e {h : Nat} : decide (xmk h 2 = (-1 : Int32)) = false := by
  show decide ((-2 : Int32) = (-1 : Int32)) = false
  decide
theorem xR_le (h0 : ∀ j, n ≤ j → s j = 0) (hW : xR s n []) (h : xR s p k) : p ≤ n := by
  rcases xR_n h0 hW h with ⟨e, -⟩ | ⟨p', k', hs⟩
  · omega
  · have := xns_lt h0 hs
    omega
theorem sh_t {h m : Nat} (hw : 4294967296 < w) (hn : n ≤ 160) (h0 : ∀ j, n ≤ j → s j = 0) (hW : xR s n []) (hR : xR s p ((h, m) :: k0)) (hs : s p = 125) (hT : TX n s v) (hA : AI s n p ((h, m) :: k0) v) : Sf (d_Mo_shuts w (Int32.ofNat p) v) (QPo s n p v) := by
  obtain ⟨si1, si2, ⟨r, si3, si4⟩, si5, si6⟩ := xR_SI hR
  obtain ⟨-, -, h35, hM1, hM⟩ := hA
  have h35' : v 198 35 = Int32.ofNat (k0.length + 1) := h35
  have hp := lt_n h0 hs (by decide)
  have hh : h ≤ n := xR_le h0 hW si1
  have i5 : pm_in (Int32.ofNat k0.length) 5 = true := in_nat (by omega) (by omega)
  have out1 : ¬ (m = 1 ∧ s (p + 1) = 123) → ∀ u, MS v u → u 198 35 = v 198 35 → u 216 = v 216 → u 207 = v 207 → (u 198 23 = v 198 23 ∨ (u 198 23 = v 198 23 + 1 ∧ v 198 23 ≠ v 198 22)) → Sf ((d_Mo_goOut (Int32.ofNat p + (1 : Int32)) u).bind fun q11 => some (q11.1, q11.2)) (QPo s n p v) := by
    intro hm u u1 u2 u3 u4 u5
    rw [ofN1]
    refine sf_bind (gO_t (z := p + 1) (b := (h, m)) (by omega) (xcl_n hs hm hR) (u2.trans h35') (MK_e hM u3) (by omega)) (fun r3 h3 => sf_some (Or.inr ⟨p + 1, k0, h3.1, h3.2.1, MS_t u1 h3.2.2.1, h3.2.2.2.1.trans u4, ?_⟩))
    rcases u5 with u5 | u5
    · exact Or.inl ⟨h3.2.2.2.2.trans u5, by omega⟩
    · exact Or.inr ⟨h3.2.2.2.2.trans u5.1, u5.2⟩
  unfold d_Mo_shuts
  rw [h35', dec_ofNat, cl_nat (show k0.length ≤ 1000 by omega), hM1]
  refine sf_c i5 ?_
  rcases si2 with ⟨m0, -⟩ | ⟨m1 | m2, hs63⟩
  · subst m0
    rw [xmk_0 (by omega)]
    refine sf_f ?_
    refine sf_bind (go_t hw) (fun q39 _ => ?_)
    refine sf_n (fun _ => ?_) (fun _ => out1 (by omega) v MS_r rfl rfl rfl (Or.inl rfl))
    refine sf_bind (is_t hw) (fun q41 h41 => ?_)
    refine sf_n (fun c41 => ?_) (fun _ => sf_some (Or.inl ⟨rfl, MS_I h41.1⟩))
    have hT41 := TX_S hT (MS_I h41.1)
    have i23 := h41.2 c41
    obtain ⟨g1, g2, g3, g4⟩ := hd_f h0 si1 (by
      rcases xR_SI hR with ⟨-, t, -⟩
      rcases t with ⟨-, t⟩ | ⟨-, t⟩
      · exact Or.inr t
      · exact Or.inl t) si3 si5 si4
    have hs42 : s h = 42 := by
      rcases xR_SI hR with ⟨-, t, -⟩
      rcases t with ⟨-, t⟩ | ⟨t, -⟩
      · exact t
      · omega
    rw [show xmk h 0 = Int32.ofNat h from rfl, ofN1]
    refine sf_bind (tr_t hw hn g2 (xdig_123 si4) si3 hT41) (fun q43 h43 => ?_)
    have m43 : MS v (pd_w q43.2 198 36 q43.1) := MS_k (MS_t (MS_I h41.1) (MS_E h43)) (by decide)
    have e35 : pd_w q43.2 198 36 q43.1 198 35 = v 198 35 := by rw [pd_w_nk (by decide), h43.2 35 (by decide) (by decide), h41.1.2 35 (by omega)]
    have e216 : pd_w q43.2 198 36 q43.1 216 = v 216 := by rw [pd_wa (by decide), h43.1 216 (by decide) (by decide) (by decide) (by omega), h41.1.1 216 (by decide)]
    have e207 : pd_w q43.2 198 36 q43.1 207 = v 207 := by rw [pd_wa (by decide), h43.1 207 (by decide) (by decide) (by decide) (by omega), h41.1.1 207 (by decide)]
    have e23 : pd_w q43.2 198 36 q43.1 198 23 = v 198 23 + 1 := by rw [pd_w_nk (by decide), h43.2 23 (by decide) (by decide), i23.1]
    refine sf_n (fun _ => ?_) (fun _ => out1 (by omega) _ m43 e35 e216 e207 (Or.inr ⟨e23, i23.2⟩))
    rw [hu_t hw hn (TX_S hT m43).2 g2 si4 g3]
    refine sf_some (Or.inr ⟨r + 1, (h, 0) :: k0, ofN1 r, ⟨by omega, ?_, e35.trans h35, MK_e (k := (h, 0) :: k0) ⟨hM1, hM⟩ e216⟩, m43, e207, Or.inr ⟨e23, i23.2⟩⟩)
    rw [show decide (s h = 63) = false from decide_eq_false (by rw [hs42]; decide)] at g4
    exact g4
  · subst m1
    rw [xmk_1, xmk_1e]
    refine sf_tt (sf_f ?_)
    rw [ofN1, hT.1, le_nat (by omega) (by omega)]
    refine sf_d (fun cz => ?_) (fun cz => ?_)
    · refine sf_n (fun c => absurd rfl c) (fun _ => ?_)
      rw [← ofN1]
      exact out1 (fun q => by rw [h0 (p + 1) (by omega)] at q; exact absurd q.2 (by decide)) v MS_r rfl rfl rfl (Or.inl rfl)
    · refine sf_c (in_nat (by omega) (by omega)) ?_
      rw [cl_nat (show p + 1 ≤ 1000 by omega), hT.2 (p + 1) (by omega)]
      refine sf_n (fun c123 => ?_) (fun c123 => ?_)
      · refine sf_n (fun c => absurd rfl c) (fun _ => ?_)
        rw [← ofN1]
        exact out1 (fun q => c123 q.2) v MS_r rfl rfl rfl (Or.inl rfl)
      · refine sf_n (fun _ => ?_) (fun c => absurd c (by decide))
        refine sf_c i5 ?_
        have hR2 := xcl_e hs rfl c123 hR
        refine sf_bind (go_t hw) (fun q33 _ => ?_)
        refine sf_n (fun _ => ?_) (fun _ => ?_)
        · refine sf_c i5 (sf_some (Or.inr ⟨p + 2, (h, 2) :: k0, ofN2 p, ⟨by omega, hR2, ?_, ⟨?_, ?_⟩⟩, MS_k (MS_w MS_r (by omega)) (by decide), ?_, Or.inl ⟨?_, by omega⟩⟩))
          · show pd_w (pd_w v 216 k0.length (-2 : Int32)) 198 36 q33 198 35 = _
            rw [pd_w_nk (by decide), pd_w_ne (by decide)]
            exact h35
          · show pd_w (pd_w v 216 k0.length (-2 : Int32)) 198 36 q33 216 k0.length = _
            rw [pd_w_ne (by decide), pd_w_self]
            rfl
          · refine MK_e (v := pd_w v 216 k0.length (-2 : Int32)) (MK_w hM (Nat.le_refl _)) ?_
            show pd_w (pd_w v 216 k0.length (-2 : Int32)) 198 36 q33 216 = pd_w v 216 k0.length (-2 : Int32) 216
            rw [pd_wa (by decide)]
          · show pd_w (pd_w v 216 k0.length (-2 : Int32)) 198 36 q33 207 = _
            rw [pd_wa (by decide), pd_wa (by decide)]
          · show pd_w (pd_w v 216 k0.length (-2 : Int32)) 198 36 q33 198 23 = _
            rw [pd_w_nk (by decide), pd_w_ne (by decide)]
        · obtain ⟨b, b1, b2, b3, b4, b5⟩ := sk_t hw hn h0 hW c123 hR2
          rw [b5 v 200 hT.2]
          show Sf ((d_Mo_goOut (Int32.ofNat (b + 1)) v).bind fun q37 => some (q37.1, q37.2)) _
          refine sf_bind (gO_t (z := b + 1) (b := (h, 2)) (by omega) (xcl_n b3 (by omega) b4) h35' hM (by omega)) (fun r3 h3 => sf_some (Or.inr ⟨b + 1, k0, h3.1, h3.2.1, h3.2.2.1, h3.2.2.2.1, Or.inl ⟨h3.2.2.2.2, by omega⟩⟩))
  · subst m2
    rw [xmk_2, xmk_2e]
    refine sf_tt (sf_tt ?_)
    exact sf_n (fun c => absurd rfl c) (fun _ => out1 (by omega) v MS_r rfl rfl rfl (Or.inl rfl))
/-! from statement to statement -/
theorem lt0 {j : Nat} (h : j ≤ 1000) : decide (Int32.ofNat j < (0 : Int32)) = false := by
  rw [show (0 : Int32) = Int32.ofNat 0 from rfl, lt_nat h (by omega)]
  exact decide_eq_false (by omega)
theorem PS_0 {b : Int} (h : PS 8 b v) : PS 0 (b + 1) v := fun j hj => by
  have := h j hj
  rw [if_pos hj] at this
  rw [if_neg (by omega)]
  exact this
theorem PS_q {i : Nat} {b : Int} (h : PS i b v) (e : q 207 = v 207) : PS i b q := fun j hj => by rw [e]; exact h j hj
theorem PS_b {b c : Int} (h : PS 0 b v) (hb : b ≤ c) : PS 0 c v := fun j hj => by
  have := h j hj
  rw [if_neg (by omega)] at *
  omega
theorem al_m (hw : 4294967296 < w) (hn : n ≤ 160) (h0 : ∀ j, n ≤ j → s j = 0) (hW : xR s n []) : ∀ (f p : Nat) (k : xK) (v : pd_V), TX n s v → AI s n p k v → PS 0 (v 198 23).toInt v → 0 ≤ (v 198 23).toInt → (v 198 23).toInt ≤ (v 198 22).toInt → (v 198 22).toInt ≤ 900000 → 200 * ((v 198 22).toInt - (v 198 23).toInt).toNat + (n + 1 - p) < f → Sf (d_Mo_all_14 w f (Int32.ofNat p) v) (fun q => MS v q) := by
  intro f
  induction f with
  | zero => intro p k v _ _ _ _ _ _ h; exact absurd h (Nat.not_lt_zero _)
  | succ f ih =>
    intro p k v hT hA hP h1 h2 h3 hf
    obtain ⟨hpn, hR, h35, hM⟩ := id hA
    have stop : ∀ u, MS v u → Sf (d_Mo_all_14 w f (-1 : Int32) u) (fun q => MS v q) := by
      intro u hu
      obtain ⟨f, rfl⟩ : ∃ g, f = g + 1 := ⟨f - 1, by omega⟩
      rw [d_Mo_all_14, show decide ((-1 : Int32) < 0) = true from by decide]
      exact sf_some hu
    have more : ∀ (z : Nat) (k' : xK) (u : pd_V), AI s n z k' u → MS v u → PS 0 (u 198 23).toInt u → ((u 198 23 = v 198 23 ∧ p < z) ∨ (u 198 23 = v 198 23 + 1 ∧ v 198 23 ≠ v 198 22)) → Sf (d_Mo_all_14 w f (Int32.ofNat z) u) (fun q => MS v q) := by
      intro z k' u a1 a2 a3 a4
      have e22 : u 198 22 = v 198 22 := a2.2 22 (by decide) (by decide) (by decide)
      rcases a4 with ⟨a4, a5⟩ | ⟨a4, a5⟩
      · refine sf_mono (ih z k' u (TX_S hT a2) a1 a3 (by rw [a4]; exact h1) (by rw [a4, e22]; exact h2) (by rw [e22]; exact h3) (by rw [a4, e22]; omega)) (fun q hq => MS_t a2 hq)
      · have ne : (v 198 23).toInt ≠ (v 198 22).toInt := fun q => a5 (Int32.toInt.inj q)
        have e : (u 198 23).toInt = (v 198 23).toInt + 1 := by rw [a4, sI_add1 (by omega)]
        refine sf_mono (ih z k' u (TX_S hT a2) a1 a3 (by omega) (by rw [e22]; omega) (by rw [e22]; exact h3) (by rw [e, e22]; have := a1.1; omega)) (fun q hq => MS_t a2 hq)
    rw [d_Mo_all_14, lt0 (by omega), hT.1, le_nat (by omega) (by omega)]
    refine sf_f (sf_d (fun _ => sf_some MS_r) (fun cn => ?_))
    rw [cl_nat (show p ≤ 1000 by omega), hT.2 p (by omega)]
    refine sf_c (in_nat (by omega) (by omega)) ?_
    have hns : ∃ p' k', xns s p k = (true, p', k') := by
      rcases xR_n h0 hW hR with ⟨e, -⟩ | e
      · omega
      · exact e
    obtain ⟨p', k', hs⟩ := hns
    have big : (s p = 63 ∨ s p = 42) → (∀ (q5 : Int32) (q8 : Int32 × pd_V), IS v q8.2 → (q8.2 198 23 = v 198 23 + 1 ∧ v 198 23 ≠ v 198 22) → Sf ((d_Mo_parts w (Int32.ofNat p) q5 q8.2).bind fun q13 => d_Mo_all_14 w f q13.1 q13.2) (fun q => MS v q)) ∧ Sf ((d_Mo_behindAll w (Int32.ofNat p) v).bind fun q16 => d_Mo_all_14 w f q16 v) (fun q => MS v q) := by
      intro hs2
      rcases xns_c hs with ⟨t, -⟩ | ⟨-, r, g1, g2, g3, g4, g5⟩ | ⟨e, -, -, -, -, -, t⟩
      · rcases hs2 with t2 | t2 <;> (rw [t2] at t; exact absurd t (by decide))
      · refine ⟨fun q5 q8 h8 i23 => ?_, ?_⟩
        · have m8 := MS_I h8
          refine sf_bind (pa_t hw hn h0 hW hR hs2 g1 g2 g3 (TX_S hT m8) ((h8.2 35 (by omega)).trans h35) (MK_e hM (h8.1 216 (by decide)))) (fun q13 h13 => ?_)
          obtain ⟨z, k2, b1, b2, b3, b4, b5⟩ := h13
          rw [b1]
          refine more z k2 q13.2 b2 (MS_t m8 b3) ?_ (Or.inr ⟨b5.trans i23.1, i23.2⟩)
          rw [b5, i23.1, sI_add1 (by omega)]
          exact PS_q (PS_b hP (by omega)) (b4.trans (h8.1 207 (by decide)))
        · obtain ⟨z, z1, z2, z3, z4⟩ := ba_t hw hn h0 hW hR hs2 g1 g2 g3
          rw [z4 v hT]
          exact more z k v ⟨z2, z3, h35, hM⟩ MS_r hP (Or.inl ⟨rfl, z1⟩)
      · have := XS_h t
        rcases hs2 with t2 | t2
        · exact absurd t2 this.2.1
        · exact absurd t2 this.2.2
    by_cases c125 : s p = 125
    · have n63 : s p ≠ 63 := by rw [c125]; decide
      have n42 : s p ≠ 42 := by rw [c125]; decide
      rw [decide_eq_false n63, decide_eq_false n42]
      refine sf_f (sf_tt ?_)
      refine sf_bind (go_t hw) (fun q19 _ => ?_)
      rw [decide_eq_true c125]
      refine sf_f ?_
      rcases xns_c hs with ⟨-, a, m, k0, ek, -⟩ | ⟨t | t, -⟩ | ⟨e, -, -, -, -, -, t⟩
      · subst ek
        refine sf_bind (sh_t hw hn h0 hW hR c125 hT hA) (fun q31 h31 => ?_)
        rcases h31 with ⟨b1, b2⟩ | ⟨z, k2, b1, b2, b3, b4, b5⟩
        · rw [b1]
          exact stop _ b2
        · rw [b1]
          refine more z k2 q31.2 b2 b3 ?_ b5
          rcases b5 with ⟨b5, -⟩ | ⟨b5, b6⟩
          · rw [b5]
            exact PS_q hP b4
          · have ne : (v 198 23).toInt ≠ (v 198 22).toInt := fun q => b6 (Int32.toInt.inj q)
            rw [b5, sI_add1 (by omega)]
            exact PS_q (PS_b hP (by omega)) b4
      · exact absurd t n63
      · exact absurd t n42
      · exact absurd c125 (XS_h t).1
    · by_cases c63 : s p = 63
      · rw [decide_eq_true c63, decide_eq_false c125]
        refine sf_tt ?_
        refine sf_bind (go_t hw) (fun q5 _ => ?_)
        refine sf_tt (sf_n (fun _ => ?_) (fun _ => sf_d (fun c => absurd c (by decide)) (fun _ => (big (Or.inl c63)).2)))
        refine sf_bind (is_t hw) (fun q8 h8 => ?_)
        refine sf_n (fun c8 => ?_) (fun _ => stop _ (MS_I h8.1))
        exact sf_d (fun c => absurd c (by decide)) (fun _ => (big (Or.inl c63)).1 _ q8 h8.1 (h8.2 c8))
      · rw [decide_eq_false c63, decide_eq_false c125]
        refine sf_f ?_
        refine sf_n (fun c42 => ?_) (fun c42 => ?_)
        · rcases xns_c hs with ⟨t, -⟩ | ⟨t | t, -⟩ | ⟨e, -, -, g3, g4, g5, g6⟩
          · exact absurd t c125
          · exact absurd t c63
          · exact absurd t c42
          · have he := lt_n h0 g3 (by decide)
            have hR' := xR_s hR hs
            have ens : p' = e + 1 ∧ k' = k := by
              rcases xns_c hs with ⟨t, -⟩ | ⟨t | t, -⟩ | ⟨e', a1, a2, a3, a4, a5, a6⟩
              · exact absurd t c125
              · exact absurd t c63
              · exact absurd t c42
              · refine ⟨?_, a2⟩
                rcases Nat.lt_trichotomy e e' with q | q | q
                · exact absurd g3 (a5.2 e (by omega) q).2.2.1
                · rw [a1, q]
                · exact absurd a3 (g5.2 e' (by omega) q).2.2.1
            rw [ens.1, ens.2] at hR'
            refine sf_bind (go_t hw) (fun q19 _ => ?_)
            refine sf_tt (sf_n (fun _ => ?_) (fun _ => ?_))
            · refine sf_bind (is_t hw) (fun q22 h22 => ?_)
              have m8 := MS_I h22.1
              refine sf_n (fun c8 => ?_) (fun _ => stop _ m8)
              have i23 := h22.2 c8
              refine sf_d (fun _ => ?_) (fun c => absurd rfl c)
              have hb : (v 198 23).toInt < 1000000 := by omega
              refine sf_bind (si_t hw hn hb he g4 g3 g6 (TX_S hT m8) (PS_q hP (h22.1.1 207 (by decide)))) (fun q25 h25 => ?_)
              have m25 := MS_t m8 (MS_A h25.1)
              rw [su_t hw hn (TX_S hT m25).2 he g3 g5]
              show Sf (d_Mo_all_14 w f (Int32.ofNat e + (1 : Int32)) q25) _
              rw [ofN1]
              have e23 : q25 198 23 = v 198 23 + 1 := (h25.1.2 23 (by decide) (by decide)).trans i23.1
              refine more (e + 1) k q25 ⟨by omega, hR', ?_, ?_⟩ m25 ?_ (Or.inr ⟨e23, i23.2⟩)
              · rw [h25.1.2 35 (by decide) (by decide), h22.1.2 35 (by omega)]
                exact h35
              · exact MK_e hM ((h25.1.1 216 (by decide) (by omega) (by decide) (by decide) (by omega)).trans (h22.1.1 216 (by decide)))
              · rw [e23, sI_add1 (by omega)]
                exact PS_0 h25.2
            · refine sf_d (fun _ => ?_) (fun c => absurd rfl c)
              rw [su_t hw hn hT.2 he g3 g5]
              show Sf (d_Mo_all_14 w f (Int32.ofNat e + (1 : Int32)) v) _
              rw [ofN1]
              exact more (e + 1) k v ⟨by omega, hR', h35, hM⟩ MS_r hP (Or.inl ⟨rfl, by omega⟩)
        · refine sf_bind (go_t hw) (fun q32 _ => ?_)
          refine sf_tt (sf_n (fun _ => ?_) (fun _ => sf_d (fun c => absurd c (by decide)) (fun _ => (big (Or.inr c42)).2)))
          refine sf_bind (is_t hw) (fun q8 h8 => ?_)
          refine sf_n (fun c8 => ?_) (fun _ => stop _ (MS_I h8.1))
          exact sf_d (fun c => absurd c (by decide)) (fun _ => (big (Or.inr c42)).1 _ q8 h8.1 (h8.2 c8))
end AL2
