/-! what varies, as the reference looks for it -/
def BV (v : pd_V) : Prop := ∀ j, j < 8 → v 201 j = 0 ∨ v 201 j = 1
def LK (v q : pd_V) : Prop := (∀ a, a ≠ 198 → a ≠ 201 → a ≠ 212 → q a = v a) ∧ (∀ k, k ≠ 10 → q 198 k = v 198 k) ∧ (BV v → BV q)
def LB (v : pd_V) : xK → Prop
  | [] => True
  | (_, m) :: k => ((m = 1 → v 212 k.length = 1 ∨ v 212 k.length = 3) ∧ (m ≠ 1 → v 212 k.length = 0 ∨ v 212 k.length = 2)) ∧ LB v k
section LO
variable {s : Nat → Int32} {n w : Nat} {v u q : pd_V} {p : Nat} {x : Int32} {k k0 : xK}
theorem LK_r : LK v v := ⟨fun _ _ _ _ => rfl, fun _ _ => rfl, id⟩
theorem LK_t (h1 : LK v u) (h2 : LK u q) : LK v q := ⟨fun a b c d => (h2.1 a b c d).trans (h1.1 a b c d), fun k b => (h2.2.1 k b).trans (h1.2.1 k b), fun b => h2.2.2 (h1.2.2 b)⟩
theorem BV_w {j : Nat} (h : BV v) (hx : x = 0 ∨ x = 1) : BV (pd_w v 201 j x) := fun i hi => by
  by_cases e : i = j
  · rw [e, pd_w_self]
    exact hx
  · rw [pd_w_nk e]
    exact h i hi
theorem LK_1 {j : Nat} (h : LK v u) (hx : x = 0 ∨ x = 1) : LK v (pd_w u 201 j x) := ⟨fun a b c d => by rw [pd_wa c]; exact h.1 a b c d, fun i b => by rw [pd_w_ne (by decide)]; exact h.2.1 i b, fun b => BV_w (h.2.2 b) hx⟩
theorem LK_2 {j : Nat} (h : LK v u) : LK v (pd_w u 212 j x) := ⟨fun a b c d => by rw [pd_wa d]; exact h.1 a b c d, fun i b => by rw [pd_w_ne (by decide)]; exact h.2.1 i b, fun b i hi => by rw [pd_w_ne (by decide)]; exact h.2.2 b i hi⟩
theorem LK_10 (h : LK v u) : LK v (pd_w u 198 10 x) := ⟨fun a b c d => by rw [pd_wa b]; exact h.1 a b c d, fun i b => by rw [pd_w_nk b]; exact h.2.1 i b, fun b i hi => by rw [pd_w_ne (by decide)]; exact h.2.2 b i hi⟩
theorem DR_L (h : DR n s v) (e : LK v q) : DR n s q := ⟨by rw [e.2.1 2 (by decide)]; exact h.1, fun j hj => by rw [e.1 199 (by decide) (by decide) (by decide)]; exact h.2 j hj⟩
theorem LB_e (h : LB v k) (e : ∀ j, j < k.length → q 212 j = v 212 j) : LB q k := by
  induction k with
  | nil => exact trivial
  | cons y k ih =>
    obtain ⟨a, m⟩ := y
    have e1 := e k.length (by show k.length < k.length + 1; omega)
    exact ⟨by rw [e1]; exact h.1, ih h.2 (fun j hj => e j (by show j < k.length + 1; omega))⟩
theorem vin8 {c : Int32} (h : xvar c = true) : pm_in (c - (97 : Int32)) 8 = true := by
  have := vlet h
  exact pin (by omega)
theorem iv_m {b : Nat} (hn : n ≤ 160) (hD : DR n s v) (hb : b ≤ n) : ∀ (f a : Nat) (y : Int32), (y = 0 ∨ y = 1) → b - a < f → a ≤ 900 → Sf (d_Mo_isVarying_5 w f (Int32.ofNat b) y (Int32.ofNat a) v) (fun _ => True) := by
  intro f
  induction f with
  | zero => intro a y _ h; exact absurd h (Nat.not_lt_zero _)
  | succ f ih =>
    intro a y hy hf ha
    rw [d_Mo_isVarying_5, le_nat (by omega) (by omega)]
    refine sf_d (fun _ => sf_c (by rcases hy with h | h <;> (rw [h]; decide)) (sf_some trivial)) (fun c => ?_)
    rw [ofN1, cl_nat (by omega), hD.2 a (by omega)]
    have go : ∀ z : Int32, (z = 0 ∨ z = 1) → Sf (d_Mo_isVarying_5 w f (Int32.ofNat b) z (Int32.ofNat (a + 1)) v) (fun _ => True) := fun z hz => ih (a + 1) z hz (by omega) (by omega)
    have i : pm_in (Int32.ofNat a) 160 = true := in_nat (by omega) (by omega)
    refine sf_n (fun _ => go _ (Or.inr rfl)) (fun _ => sf_c i ?_)
    refine sf_d (fun _ => go _ (Or.inr rfl)) (fun _ => sf_c i ?_)
    refine sf_d (fun _ => go _ (Or.inr rfl)) (fun _ => sf_c i ?_)
    refine sf_n (fun _ => go _ (Or.inl rfl)) (fun cv => sf_c i ?_)
    refine sf_c (vin8 (show xvar (s a) = true from decide_eq_true cv)) ?_
    exact sf_d (fun _ => go _ (Or.inl rfl)) (fun _ => go _ (Or.inr rfl))
theorem iv_t {a b : Nat} (hw : 4294967296 < w) (hn : n ≤ 160) (hD : DR n s v) (h : b ≤ n ∧ a ≤ 900) : Sf (d_Mo_isVarying w (Int32.ofNat a) (Int32.ofNat b) v) (fun _ => True) := by
  unfold d_Mo_isVarying
  exact iv_m hn hD h.1 w a 0 (Or.inl rfl) (by omega) h.2
theorem lk_m (hw : 4294967296 < w) (hn : n ≤ 160) (h0 : ∀ j, n ≤ j → s j = 0) (hW : xR s n []) : ∀ (F p : Nat) (k : xK) (v : pd_V), n + 1 - p < F → DR n s v → xR s p k → LB v k → Sf (d_Mo_look_4 w F (Int32.ofNat k.length) (Int32.ofNat p) v) (LK v) := by
  intro F
  induction F with
  | zero => intro p k v h; exact absurd h (Nat.not_lt_zero _)
  | succ F ih =>
    intro p k v hF hD hR hB
    have hp := xR_le h0 hW hR
    have k4 := xSI_4 (xR_SI hR)
    have i40 : pm_in (Int32.ofNat k.length) 40 = true := in_nat (by omega) (by omega)
    rw [d_Mo_look_4, hD.1, le_nat (by omega) (by omega)]
    refine sf_d (fun _ => sf_some LK_r) (fun cn => ?_)
    refine sf_c (in_nat (by omega) (by omega)) ?_
    rw [cl_nat (show p ≤ 1000 by omega), hD.2 p (by omega)]
    have hns : ∃ p' k', xns s p k = (true, p', k') := by
      rcases xR_n h0 hW hR with ⟨e, -⟩ | e
      · omega
      · exact e
    obtain ⟨p', k', hs⟩ := hns
    have hR' := xR_s hR hs
    have hp' := xR_le h0 hW hR'
    have next : ∀ (u : pd_V), LK v u → LB u k' → p < p' → Sf (d_Mo_look_4 w F (Int32.ofNat k'.length) (Int32.ofNat p') u) (LK v) := fun u h1 h2 h3 => sf_mono (ih p' k' u (by omega) (DR_L hD h1) hR' h2) (fun q hq => LK_t h1 hq)
    have headI : (s p = 63 ∨ s p = 42) → ∃ r, Sf (d_Mo_upTo w 199 160 (Int32.ofNat p) (123 : Int32) (123 : Int32) v) (fun q => q = Int32.ofNat r) ∧ (p + 1 ≤ r ∧ r < n) ∧ ∀ x : Int32, (((bif decide (s p = 63) then 1 else 0) = 0 ∧ (x = 0 ∨ x = 2)) ∨ ((bif decide (s p = 63) then 1 else 0) = 1 ∧ x = 1) ∨ ((bif decide (s p = 63) then 1 else 0) = 1 ∧ x = 3)) → Sf (d_Mo_look_4 w F (Int32.ofNat (k.length + 1)) (Int32.ofNat (r + 1)) (pd_w v 212 k.length x)) (LK v) := by
      intro hs2
      rcases xns_c hs with ⟨t, -⟩ | ⟨-, r, g1, g2, g3, g4, g5⟩ | ⟨e, -, -, -, -, -, t⟩
      · rcases hs2 with t2 | t2 <;> (rw [t2] at t; exact absurd t (by decide))
      · obtain ⟨b1, b2, b3, b4⟩ := hd_f h0 hR hs2 g1 g2 g3
        refine ⟨r, ⟨_, hu_t hw hn hD.2 b2 g3 b3, rfl⟩, ⟨by omega, b2⟩, fun x hx => ?_⟩
        have := next (pd_w v 212 k.length x) (LK_2 LK_r) ?_ (by omega)
        · rw [g4, g5] at this
          exact this
        · rw [g5]
          refine ⟨⟨fun z => ?_, fun z => ?_⟩, LB_e hB (fun j hj => pd_w_nk (by omega))⟩
          · rw [pd_w_self]
            rcases hx with hx | hx | hx
            · omega
            · exact Or.inl hx.2
            · exact Or.inr hx.2
          · rw [pd_w_self]
            rcases hx with hx | hx | hx
            · exact hx.2
            · exact absurd hx.1 z
            · exact absurd hx.1 z
      · have := XS_h t
        rcases hs2 with t2 | t2
        · exact absurd t2 this.2.1
        · exact absurd t2 this.2.2
    have simpI : s p ≠ 125 → s p ≠ 63 → s p ≠ 42 → ∃ e, Sf (d_Mo_upTo w 199 160 (Int32.ofNat p) (59 : Int32) (59 : Int32) v) (fun q => q = Int32.ofNat e) ∧ (p < e ∧ e < n) ∧ (∀ u : pd_V, LK v u → u 212 = v 212 → Sf (d_Mo_look_4 w F (Int32.ofNat k.length) (Int32.ofNat (e + 1)) u) (LK v)) ∧ XS s p e := by
      intro c125 c63 c42
      rcases xns_c hs with ⟨t, -⟩ | ⟨t | t, -⟩ | ⟨e, g1, g2, g3, g4, g5, g6⟩
      · exact absurd t c125
      · exact absurd t c63
      · exact absurd t c42
      · have he := lt_n h0 g3 (by decide)
        refine ⟨e, ⟨_, su_t hw hn hD.2 he g3 g5, rfl⟩, ⟨g4, he⟩, fun u h1 h2 => ?_, g6⟩
        have := next u h1 (by rw [g2]; exact LB_e hB (fun j _ => by rw [h2])) (by omega)
        rw [g1, g2] at this
        exact this
    have nilI : k = [] → s p ≠ 125 := by
      intro hk c
      rcases xns_c hs with ⟨-, a, m, k1, e1, -⟩ | ⟨t | t, -⟩ | ⟨e, -, -, -, -, -, t⟩
      · rw [hk] at e1
        exact nomatch e1
      · rw [t] at c; exact absurd c (by decide)
      · rw [t] at c; exact absurd c (by decide)
      · exact absurd c (XS_h t).1
    rw [le0 (show k.length ≤ 1000 by omega)]
    by_cases hk0 : k = []
    · refine sf_d (fun _ => ?_) (fun c => absurd (show k.length ≤ 0 by rw [hk0]; exact Nat.le_refl 0) c)
      refine sf_n (fun c125 => ?_) (fun c125 => ?_)
      · refine sf_d (fun c63 => ?_) (fun c63 => ?_)
        · obtain ⟨r, hu, hrb, hg⟩ := headI (Or.inl c63)
          rw [decide_eq_true c63] at hg
          refine sf_bind hu (fun q6 e6 => ?_)
          subst e6
          rw [ofN1 p, ofN1 r, ofN1 k.length, cl_nat (show k.length ≤ 1000 by omega)]
          refine sf_n (fun c => absurd c63 c) (fun _ => ?_)
          refine sf_n (fun _ => sf_c i40 (hg _ (Or.inr (Or.inr ⟨rfl, by decide⟩)))) (fun _ => ?_)
          refine sf_bind (iv_t hw hn hD (by omega)) (fun _ _ => ?_)
          exact sf_d (fun _ => sf_c i40 (hg _ (Or.inr (Or.inl ⟨rfl, by decide⟩)))) (fun _ => sf_c i40 (hg _ (Or.inr (Or.inr ⟨rfl, by decide⟩))))
        · refine sf_n (fun c42 => ?_) (fun c42 => ?_)
          · obtain ⟨e, hu, he, hg, hx⟩ := simpI c125 c63 c42
            refine sf_bind hu (fun q6 e6 => ?_)
            subst e6
            rw [ofN1 e, ofN2 p]
            refine sf_n (fun c88 => ?_) (fun c88 => ?_)
            · refine sf_n (fun _ => hg v LK_r rfl) (fun cv => ?_)
              have hv : xvar (s p) = true := decide_eq_true cv
              have i8 := vin8 hv
              have g0 : Sf (d_Mo_look_4 w F (Int32.ofNat k.length) (Int32.ofNat (e + 1)) (pd_w v 201 (s p - (97 : Int32)).toNatClampNeg (0 : Int32))) (LK v) := hg _ (LK_1 LK_r (Or.inl rfl)) (pd_wa (by decide))
              have g1 : Sf (d_Mo_look_4 w F (Int32.ofNat k.length) (Int32.ofNat (e + 1)) (pd_w v 201 (s p - (97 : Int32)).toNatClampNeg (1 : Int32))) (LK v) := hg _ (LK_1 LK_r (Or.inr rfl)) (pd_wa (by decide))
              refine sf_c i8 (sf_n (fun _ => sf_c i8 g1) (fun _ => ?_))
              refine sf_n (fun _ => sf_c i8 g1) (fun _ => ?_)
              refine sf_bind (iv_t hw hn hD (by omega)) (fun _ _ => ?_)
              exact sf_d (fun _ => sf_c i8 g0) (fun _ => sf_c i8 g1)
            · obtain ⟨v1, v2, hE⟩ := XS_X hx c88
              have hp1 := (xE_g hE).2
              rw [ofN1 p, cl_nat (show p + 1 ≤ 1000 by omega), hD.2 (p + 1) (by omega)]
              refine sf_c (in_nat (by omega) (by omega)) (sf_c (vin8 v1) ?_)
              have g1 : Sf (d_Mo_look_4 w F (Int32.ofNat k.length) (Int32.ofNat (e + 1)) (pd_w v 201 (s (p + 1) - (97 : Int32)).toNatClampNeg (1 : Int32))) (LK v) := hg _ (LK_1 LK_r (Or.inr rfl)) (pd_wa (by decide))
              refine sf_d (fun _ => g1) (fun _ => ?_)
              refine sf_d (fun _ => g1) (fun _ => ?_)
              exact hg _ (LK_10 (LK_1 LK_r (Or.inr rfl))) (by rw [pd_wa (by decide), pd_wa (by decide)])
          · obtain ⟨r, hu, hrb, hg⟩ := headI (Or.inr c42)
            have n63 : s p ≠ 63 := by rw [c42]; decide
            rw [decide_eq_false n63] at hg
            refine sf_bind hu (fun q6 e6 => ?_)
            subst e6
            rw [ofN1 p, ofN1 r, ofN1 k.length, cl_nat (show k.length ≤ 1000 by omega)]
            refine sf_n (fun _ => ?_) (fun c => absurd c n63)
            refine sf_n (fun _ => sf_c i40 (hg _ (Or.inl ⟨rfl, Or.inr (by decide)⟩))) (fun _ => ?_)
            refine sf_bind (iv_t hw hn hD (by omega)) (fun _ _ => ?_)
            exact sf_d (fun _ => sf_c i40 (hg _ (Or.inl ⟨rfl, Or.inl (by decide)⟩))) (fun _ => sf_c i40 (hg _ (Or.inl ⟨rfl, Or.inr (by decide)⟩)))
      · exact absurd c125 (nilI hk0)
    · obtain ⟨a, m, k0, hk⟩ : ∃ a m k0, k = (a, m) :: k0 := by
        cases k with
        | nil => exact absurd rfl hk0
        | cons y k0 => exact ⟨y.1, y.2, k0, rfl⟩
      have hlen : k.length = k0.length + 1 := by rw [hk]; rfl
      have hBc : LB v ((a, m) :: k0) := by rw [← hk]; exact hB
      have hRc : xR s p ((a, m) :: k0) := by rw [← hk]; exact hR
      have k4' : k0.length + 1 ≤ 4 := by omega
      have j40 : pm_in (Int32.ofNat k0.length) 40 = true := in_nat (by omega) (by omega)
      refine sf_d (fun c => absurd c (by omega)) (fun _ => ?_)
      have clsI : s p = 125 → Sf (bif decide (Int32.ofNat n ≤ Int32.ofNat p + (1 : Int32)) then d_Mo_look_4 w F (Int32.ofNat k.length + (-1 : Int32)) (Int32.ofNat p + (1 : Int32)) v else bif pm_in (Int32.ofNat p + (1 : Int32)) 160 then bif !(decide (v 199 (Int32.ofNat p + (1 : Int32)).toNatClampNeg = (123 : Int32))) then d_Mo_look_4 w F (Int32.ofNat k.length + (-1 : Int32)) (Int32.ofNat p + (1 : Int32)) v else bif pm_in (Int32.ofNat k.length + (-1 : Int32)) 40 then bif !(decide ((2 : Int32) = 0)) then bif !(decide (v 212 (Int32.ofNat k.length + (-1 : Int32)).toNatClampNeg - v 212 (Int32.ofNat k.length + (-1 : Int32)).toNatClampNeg / (2 : Int32) * (2 : Int32) = (1 : Int32))) then d_Mo_look_4 w F (Int32.ofNat k.length + (-1 : Int32)) (Int32.ofNat p + (1 : Int32)) v else bif pm_in (Int32.ofNat k.length + (-1 : Int32)) 40 then bif pm_in (Int32.ofNat k.length + (-1 : Int32)) 40 then d_Mo_look_4 w F ((Int32.ofNat k.length + (-1 : Int32)) + (1 : Int32)) ((Int32.ofNat p + (1 : Int32)) + (1 : Int32)) (pd_w v 212 (Int32.ofNat k.length + (-1 : Int32)).toNatClampNeg (v 212 (Int32.ofNat k.length + (-1 : Int32)).toNatClampNeg - (1 : Int32))) else none else none else none else none else none) (LK v) := by
        intro c125
        rw [hlen, ofNm, ofN1 p, ofN1 k0.length, ofN1 (p + 1), le_nat (by omega) (by omega), cl_nat (show p + 1 ≤ 1000 by omega), cl_nat (show k0.length ≤ 1000 by omega)]
        have hB1 := hBc.1
        have out : ¬ (m = 1 ∧ s (p + 1) = 123) → Sf (d_Mo_look_4 w F (Int32.ofNat k0.length) (Int32.ofNat (p + 1)) v) (LK v) := by
          intro hm
          exact ih (p + 1) k0 v (by omega) hD (xcl_n c125 hm hRc) hBc.2
        refine sf_d (fun c => out (fun q => by rw [h0 (p + 1) c] at q; exact absurd q.2 (by decide))) (fun c => ?_)
        refine sf_c (in_nat (by omega) (by omega)) ?_
        rw [hD.2 (p + 1) (by omega)]
        refine sf_n (fun c2 => out (fun q => c2 q.2)) (fun c2 => ?_)
        refine sf_c j40 (sf_c (by decide) ?_)
        by_cases hm : m = 1
        · have hx := hB1.1 hm
          have go : ∀ x : Int32, (x = 0 ∨ x = 2) → Sf (d_Mo_look_4 w F (Int32.ofNat (k0.length + 1)) (Int32.ofNat (p + 1 + 1)) (pd_w v 212 k0.length x)) (LK v) := by
            intro x hx2
            refine sf_mono (ih (p + 2) ((a, 2) :: k0) (pd_w v 212 k0.length x) (by omega) (DR_L hD (LK_2 LK_r)) (xcl_e c125 hm c2 hRc) ⟨⟨fun z => absurd z (by decide), fun _ => by rw [pd_w_self]; exact hx2⟩, LB_e hBc.2 (fun j hj => pd_w_nk (by omega))⟩) (fun q hq => LK_t (LK_2 LK_r) hq)
          rcases hx with hx | hx
          · rw [hx]
            refine sf_n (fun z => absurd (by decide) z) (fun _ => sf_c j40 (sf_c j40 (go _ (by decide))))
          · rw [hx]
            refine sf_n (fun z => absurd (by decide) z) (fun _ => sf_c j40 (sf_c j40 (go _ (by decide))))
        · have hx := hB1.2 hm
          rcases hx with hx | hx
          · rw [hx]
            exact sf_n (fun _ => out (fun q => hm q.1)) (fun z => absurd z (by decide))
          · rw [hx]
            exact sf_n (fun _ => out (fun q => hm q.1)) (fun z => absurd z (by decide))
      rw [show Int32.ofNat k.length - (1 : Int32) = Int32.ofNat k0.length from by rw [hlen]; exact dec_ofNat k0.length]
      refine sf_c j40 ?_
      refine sf_d (fun _ => ?_) (fun _ => ?_)
      · refine sf_n (fun c125 => ?_) (fun c125 => ?_)
        · refine sf_d (fun c63 => ?_) (fun c63 => ?_)
          · obtain ⟨r, hu, hrb, hg⟩ := headI (Or.inl c63)
            rw [decide_eq_true c63] at hg
            refine sf_bind hu (fun q6 e6 => ?_)
            subst e6
            rw [ofN1 p, ofN1 r, ofN1 k.length, cl_nat (show k.length ≤ 1000 by omega)]
            refine sf_n (fun c => absurd c63 c) (fun _ => ?_)
            refine sf_n (fun _ => sf_c i40 (hg _ (Or.inr (Or.inr ⟨rfl, by decide⟩)))) (fun _ => ?_)
            refine sf_bind (iv_t hw hn hD (by omega)) (fun _ _ => ?_)
            exact sf_d (fun _ => sf_c i40 (hg _ (Or.inr (Or.inl ⟨rfl, by decide⟩)))) (fun _ => sf_c i40 (hg _ (Or.inr (Or.inr ⟨rfl, by decide⟩))))
          · refine sf_n (fun c42 => ?_) (fun c42 => ?_)
            · obtain ⟨e, hu, he, hg, hx⟩ := simpI c125 c63 c42
              refine sf_bind hu (fun q6 e6 => ?_)
              subst e6
              rw [ofN1 e, ofN2 p]
              refine sf_n (fun c88 => ?_) (fun c88 => ?_)
              · refine sf_n (fun _ => hg v LK_r rfl) (fun cv => ?_)
                have hv : xvar (s p) = true := decide_eq_true cv
                have i8 := vin8 hv
                have g0 : Sf (d_Mo_look_4 w F (Int32.ofNat k.length) (Int32.ofNat (e + 1)) (pd_w v 201 (s p - (97 : Int32)).toNatClampNeg (0 : Int32))) (LK v) := hg _ (LK_1 LK_r (Or.inl rfl)) (pd_wa (by decide))
                have g1 : Sf (d_Mo_look_4 w F (Int32.ofNat k.length) (Int32.ofNat (e + 1)) (pd_w v 201 (s p - (97 : Int32)).toNatClampNeg (1 : Int32))) (LK v) := hg _ (LK_1 LK_r (Or.inr rfl)) (pd_wa (by decide))
                refine sf_c i8 (sf_n (fun _ => sf_c i8 g1) (fun _ => ?_))
                refine sf_n (fun _ => sf_c i8 g1) (fun _ => ?_)
                refine sf_bind (iv_t hw hn hD (by omega)) (fun _ _ => ?_)
                exact sf_d (fun _ => sf_c i8 g0) (fun _ => sf_c i8 g1)
              · obtain ⟨v1, v2, hE⟩ := XS_X hx c88
                have hp1 := (xE_g hE).2
                rw [ofN1 p, cl_nat (show p + 1 ≤ 1000 by omega), hD.2 (p + 1) (by omega)]
                refine sf_c (in_nat (by omega) (by omega)) (sf_c (vin8 v1) ?_)
                have g1 : Sf (d_Mo_look_4 w F (Int32.ofNat k.length) (Int32.ofNat (e + 1)) (pd_w v 201 (s (p + 1) - (97 : Int32)).toNatClampNeg (1 : Int32))) (LK v) := hg _ (LK_1 LK_r (Or.inr rfl)) (pd_wa (by decide))
                refine sf_d (fun _ => g1) (fun _ => ?_)
                refine sf_d (fun _ => g1) (fun _ => ?_)
                exact hg _ (LK_10 (LK_1 LK_r (Or.inr rfl))) (by rw [pd_wa (by decide), pd_wa (by decide)])
            · obtain ⟨r, hu, hrb, hg⟩ := headI (Or.inr c42)
              have n63 : s p ≠ 63 := by rw [c42]; decide
              rw [decide_eq_false n63] at hg
              refine sf_bind hu (fun q6 e6 => ?_)
              subst e6
              rw [ofN1 p, ofN1 r, ofN1 k.length, cl_nat (show k.length ≤ 1000 by omega)]
              refine sf_n (fun _ => ?_) (fun c => absurd c n63)
              refine sf_n (fun _ => sf_c i40 (hg _ (Or.inl ⟨rfl, Or.inr (by decide)⟩))) (fun _ => ?_)
              refine sf_bind (iv_t hw hn hD (by omega)) (fun _ _ => ?_)
              exact sf_d (fun _ => sf_c i40 (hg _ (Or.inl ⟨rfl, Or.inl (by decide)⟩))) (fun _ => sf_c i40 (hg _ (Or.inl ⟨rfl, Or.inr (by decide)⟩)))
        · exact clsI c125
      · refine sf_n (fun c125 => ?_) (fun c125 => ?_)
        · refine sf_d (fun c63 => ?_) (fun c63 => ?_)
          · obtain ⟨r, hu, hrb, hg⟩ := headI (Or.inl c63)
            rw [decide_eq_true c63] at hg
            refine sf_bind hu (fun q6 e6 => ?_)
            subst e6
            rw [ofN1 p, ofN1 r, ofN1 k.length, cl_nat (show k.length ≤ 1000 by omega)]
            refine sf_n (fun c => absurd c63 c) (fun _ => ?_)
            refine sf_n (fun _ => sf_c i40 (hg _ (Or.inr (Or.inr ⟨rfl, by decide⟩)))) (fun _ => ?_)
            refine sf_bind (iv_t hw hn hD (by omega)) (fun _ _ => ?_)
            exact sf_d (fun _ => sf_c i40 (hg _ (Or.inr (Or.inl ⟨rfl, by decide⟩)))) (fun _ => sf_c i40 (hg _ (Or.inr (Or.inr ⟨rfl, by decide⟩))))
          · refine sf_n (fun c42 => ?_) (fun c42 => ?_)
            · obtain ⟨e, hu, he, hg, hx⟩ := simpI c125 c63 c42
              refine sf_bind hu (fun q6 e6 => ?_)
              subst e6
              rw [ofN1 e, ofN2 p]
              refine sf_n (fun c88 => ?_) (fun c88 => ?_)
              · refine sf_n (fun _ => hg v LK_r rfl) (fun cv => ?_)
                have hv : xvar (s p) = true := decide_eq_true cv
                have i8 := vin8 hv
                have g0 : Sf (d_Mo_look_4 w F (Int32.ofNat k.length) (Int32.ofNat (e + 1)) (pd_w v 201 (s p - (97 : Int32)).toNatClampNeg (0 : Int32))) (LK v) := hg _ (LK_1 LK_r (Or.inl rfl)) (pd_wa (by decide))
                have g1 : Sf (d_Mo_look_4 w F (Int32.ofNat k.length) (Int32.ofNat (e + 1)) (pd_w v 201 (s p - (97 : Int32)).toNatClampNeg (1 : Int32))) (LK v) := hg _ (LK_1 LK_r (Or.inr rfl)) (pd_wa (by decide))
                refine sf_c i8 (sf_n (fun _ => sf_c i8 g1) (fun _ => ?_))
                refine sf_n (fun _ => sf_c i8 g1) (fun _ => ?_)
                refine sf_bind (iv_t hw hn hD (by omega)) (fun _ _ => ?_)
                exact sf_d (fun _ => sf_c i8 g0) (fun _ => sf_c i8 g1)
              · obtain ⟨v1, v2, hE⟩ := XS_X hx c88
                have hp1 := (xE_g hE).2
                rw [ofN1 p, cl_nat (show p + 1 ≤ 1000 by omega), hD.2 (p + 1) (by omega)]
                refine sf_c (in_nat (by omega) (by omega)) (sf_c (vin8 v1) ?_)
                have g1 : Sf (d_Mo_look_4 w F (Int32.ofNat k.length) (Int32.ofNat (e + 1)) (pd_w v 201 (s (p + 1) - (97 : Int32)).toNatClampNeg (1 : Int32))) (LK v) := hg _ (LK_1 LK_r (Or.inr rfl)) (pd_wa (by decide))
                refine sf_d (fun _ => g1) (fun _ => ?_)
                refine sf_d (fun _ => g1) (fun _ => ?_)
                exact hg _ (LK_10 (LK_1 LK_r (Or.inr rfl))) (by rw [pd_wa (by decide), pd_wa (by decide)])
            · obtain ⟨r, hu, hrb, hg⟩ := headI (Or.inr c42)
              have n63 : s p ≠ 63 := by rw [c42]; decide
              rw [decide_eq_false n63] at hg
              refine sf_bind hu (fun q6 e6 => ?_)
              subst e6
              rw [ofN1 p, ofN1 r, ofN1 k.length, cl_nat (show k.length ≤ 1000 by omega)]
              refine sf_n (fun _ => ?_) (fun c => absurd c n63)
              refine sf_n (fun _ => sf_c i40 (hg _ (Or.inl ⟨rfl, Or.inr (by decide)⟩))) (fun _ => ?_)
              refine sf_bind (iv_t hw hn hD (by omega)) (fun _ _ => ?_)
              exact sf_d (fun _ => sf_c i40 (hg _ (Or.inl ⟨rfl, Or.inl (by decide)⟩))) (fun _ => sf_c i40 (hg _ (Or.inl ⟨rfl, Or.inr (by decide)⟩)))
        · exact clsI c125
theorem lk_t (hw : 4294967296 < w) (hn : n ≤ 160) (h0 : ∀ j, n ≤ j → s j = 0) (hW : xR s n []) (hD : DR n s v) : Sf (d_Mo_look w v) (LK v) := by
  unfold d_Mo_look
  exact lk_m hw hn h0 hW w 0 [] v (by omega) hD ⟨0, rfl⟩ trivial
end LO
