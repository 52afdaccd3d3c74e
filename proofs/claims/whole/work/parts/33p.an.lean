/-! the reference's run of each lane alone: all lanes -/
def AV (s : Nat → Int32) (n : Nat) (v : pd_V) : Prop := TX n s v ∧ (∀ l, l < 8 → LI s l v) ∧ (0 ≤ (v 198 28).toInt ∧ (v 198 28).toInt ≤ 4000) ∧ (∀ j, 8 ≤ j → j < 16 → 0 ≤ (v 207 j).toInt ∧ (v 207 j).toInt + (v 198 28).toInt ≤ 4000)
def XW (s : Nat → Int32) (l : Nat) (v : pd_V) : Prop := v 215 l ≠ 0 → ∃ p k, zLS s l p k v ∧ s p = 88
def GOs (s : Nat → Int32) (n l : Nat) (v u : pd_V) : Prop := AV s n u ∧ MB v u ∧ (u 198 28).toInt ≤ (v 198 28).toInt ∧ OL l v u ∧ XW s l u
def GO (s : Nat → Int32) (n l : Nat) (v : pd_V) (r : Int32 × pd_V) : Prop := GOs s n l v r.2
section AN2
variable {s : Nat → Int32} {n w : Nat} {v u q : pd_V} {p l : Nat} {x : Int32} {k k0 : xK}
theorem GO_i {y : Int32} (h : GOs s n l v u) : GO s n l v (y, u) := h
theorem XW_o {j : Nat} (h : XW s j v) (hj : j < 8) (hl : j ≠ l) (e : OL l v q) : XW s j q := fun c => by
  rw [(e j hj hl).2.2.1] at c
  obtain ⟨p, k, h1, h2⟩ := h c
  exact ⟨p, k, zLS_e h1 (e j hj hl).1 (e j hj hl).2.1 (e j hj hl).2.2.2, h2⟩
theorem XW_0 (h : v 215 l = 0) : XW s l v := fun c => absurd h c
/-- a step with one unit of fuel less -/
theorem AV_s (hl : l < 8) (hA : AV s n v) (h28 : 0 < (v 198 28).toInt) (hS : ∃ p2 k2, zLS s l p2 k2 q) (hB : MB v q) (hO : OL l v q) (hP : PG (8 + l) v q) (e28 : (q 198 28).toInt = (v 198 28).toInt - 1) : AV s n q := by
  obtain ⟨h1, h2, h3, h4⟩ := hA
  refine ⟨TX_B h1 hB, fun j hj => ?_, by omega, fun j a b => ?_⟩
  · by_cases e : j = l
    · subst e
      exact hS
    · exact LI_o (h2 j hj) hj e hO
  · have g := h4 j a b
    by_cases e : j = 8 + l
    · subst e
      rcases hP.2 with e2 | e2
      · rw [e2]; omega
      · rw [e2, sI_add1 (by omega)]; omega
    · rw [hP.1 j e]; omega
/-- nothing but a flag or a mark -/
theorem AV_w {a i : Nat} (hA : AV s n v) (ha : a = 208 ∨ a = 209 ∨ a = 214 ∨ a = 215) : AV s n (pd_w v a i x) := by
  obtain ⟨h1, h2, h3, h4⟩ := hA
  refine ⟨TX_B h1 (MB_w MB_r (by omega)), fun j hj => ?_, by rw [pd_w_ne (by omega)]; exact h3, fun j b c => by rw [pd_w_ne (by omega), pd_w_ne (by omega)]; exact h4 j b c⟩
  obtain ⟨p, k, h⟩ := h2 j hj
  exact ⟨p, k, zLS_e h (pd_w_ne (by omega)) (pd_w_ne (by omega)) (fun i _ => pd_w_ne (by omega))⟩
theorem gs_m (hw : 4294967296 < w) (hn : n ≤ 160) (h0 : ∀ j, n ≤ j → s j = 0) (hW : xR s n []) (hl : l < 8) : ∀ (f p : Nat) (k : xK) (v : pd_V), AV s n v → zLS s l p k v → v 215 l = 0 → 400 * ((v 198 28).toInt).toNat + ((if s p = 125 then 200 else 0) + (n - p)) < f → Sf (d_Mo_goes_5 w f (Int32.ofNat l) (Int32.ofNat (8 + l)) v) (GO s n l v) := by
  intro f
  induction f with
  | zero => intro p k v _ _ _ h; exact absurd h (Nat.not_lt_zero _)
  | succ f ih =>
    intro p k v hA hS h215 hf
    obtain ⟨hT, hLI, h28, hPA⟩ := id hA
    obtain ⟨a1, a2, a3, a4⟩ := id hS
    have hp := xR_le h0 hW a2
    have cl : (Int32.ofNat l).toNatClampNeg = l := cl_nat (by omega)
    have cl2 : (Int32.ofNat (8 + l)).toNatClampNeg = 8 + l := cl_nat (by omega)
    have il : pm_in (Int32.ofNat l) 8 = true := in_nat hl (by omega)
    have il2 : pm_in (Int32.ofNat (8 + l)) 16 = true := in_nat (by omega) (by omega)
    have halt : GO s n l v ((1 : Int32), pd_w v 209 (8 + l) (1 : Int32)) := GO_i ⟨AV_w hA (by omega), MB_w MB_r (by decide), by rw [pd_w_ne (by decide)]; exact Int.le_refl _, OL_w OL_r (by decide), XW_0 (by rw [pd_w_ne (by decide)]; exact h215)⟩
    rw [d_Mo_goes_5, cl, cl2, a1, hT.1, le_nat (by omega) (by omega)]
    refine sf_c il2 ?_
    refine sf_n (fun _ => sf_c il2 (sf_some halt)) (fun _ => sf_c il ?_)
    refine sf_d (fun _ => sf_c il2 (sf_some halt)) (fun cn => sf_c il ?_)
    have ip : pm_in (Int32.ofNat p) 160 = true := in_nat (by omega) (by omega)
    rw [cl_nat (show p ≤ 1000 by omega), hT.2 p (by omega)]
    refine sf_c ip ?_
    have hns : ∃ p' k', xns s p k = (true, p', k') := by
      rcases xR_n h0 hW a2 with ⟨e, -⟩ | e
      · omega
      · exact e
    obtain ⟨p', k', hs⟩ := hns
    have e28' : 0 < (v 198 28).toInt → (pd_w v 198 28 ((v 198 28) - (1 : Int32)) 198 28).toInt = (v 198 28).toInt - 1 := fun h => by rw [pd_w_self, sI_sub1 (by omega)]
    have O1 : OL l v (pd_w v 198 28 ((v 198 28) - (1 : Int32))) := OL_w OL_r (by decide)
    have B1 : MB v (pd_w v 198 28 ((v 198 28) - (1 : Int32))) := MB_k MB_r (by decide)
    have T1 : TX n s (pd_w v 198 28 ((v 198 28) - (1 : Int32))) := TX_B hT B1
    have S1 : zLS s l p k (pd_w v 198 28 ((v 198 28) - (1 : Int32))) := zLS_e hS (pd_w_ne (by decide)) (pd_w_ne (by decide)) (fun i _ => pd_w_ne (by decide))
    have step : 0 < (v 198 28).toInt → ∀ q, SP s l (pd_w v 198 28 ((v 198 28) - (1 : Int32))) q → Sf (d_Mo_goes_5 w f (Int32.ofNat l) (Int32.ofNat (8 + l)) q) (GO s n l v) := by
      intro hz q hq
      obtain ⟨⟨p2, k2, q1⟩, q2, q3, q4, q5, q6⟩ := hq
      have Bq := MB_t B1 q2
      have Oq := OL_t O1 q3
      have e2 : (q 198 28).toInt = (v 198 28).toInt - 1 := by rw [q5]; exact e28' hz
      have Pq : PG (8 + l) v q := ⟨fun j hj => (q4.1 j hj).trans (pd_w_ne (by decide)), by
        rcases q4.2 with e | e
        · rw [pd_w_ne (by decide)] at e; exact Or.inl e
        · rw [pd_w_ne (by decide)] at e; exact Or.inr e⟩
      have Aq := AV_s hl hA hz ⟨p2, k2, q1⟩ Bq Oq Pq e2
      have q215 : q 215 l = 0 := by rw [q6, pd_w_ne (by decide)]; exact h215
      have hp2 := xR_le h0 hW q1.2.1
      refine sf_mono (ih p2 k2 q Aq q1 q215 ?_) (fun r hr => ⟨hr.1, MB_t Bq hr.2.1, by have := hr.2.2.1; omega, OL_t Oq hr.2.2.2.1, hr.2.2.2.2⟩)
      have : (if s p2 = 125 then 200 else 0) ≤ 200 := by split <;> omega
      omega
    refine sf_n (fun c125 => sf_c ip ?_) (fun c125 => ?_)
    · refine sf_n (fun c88 => ?_) (fun c88 => ?_)
      · refine sf_n (fun c28 => sf_c ip ?_) (fun _ => sf_some ⟨hA, MB_r, Int.le_refl _, OL_r, XW_0 h215⟩)
        have hz : 0 < (v 198 28).toInt := by
          have : (v 198 28).toInt ≠ (0 : Int32).toInt := fun q => c28 (Int32.toInt.inj q)
          have z := sI_0
          omega
        have head : (s p = 63 ∨ s p = 42) → Sf ((d_Mo_choose w (Int32.ofNat (8 + l)) (Int32.ofNat l) (Int32.ofNat p) (pd_w v 198 28 ((v 198 28) - (1 : Int32)))).bind fun q15 => d_Mo_goes_5 w f (Int32.ofNat l) (Int32.ofNat (8 + l)) q15) (GO s n l v) := by
          intro hs2
          rcases xns_c hs with ⟨t, -⟩ | ⟨-, r, g1, g2, g3, g4, g5⟩ | ⟨e, -, -, -, -, -, t⟩
          · exact absurd t c125
          · exact sf_bind (ch_t hw hn h0 hW hl T1 S1 hs2 g1 g2 g3) (fun q hq => step hz q hq)
          · have := XS_h t
            rcases hs2 with t2 | t2
            · exact absurd t2 this.2.1
            · exact absurd t2 this.2.2
        refine sf_d (fun c63 => head (Or.inl c63)) (fun c63 => sf_c ip ?_)
        refine sf_n (fun c42 => ?_) (fun c42 => head (Or.inr c42))
        rcases xns_c hs with ⟨t, -⟩ | ⟨t | t, -⟩ | ⟨e, g1, g2, g3, g4, g5, g6⟩
        · exact absurd t c125
        · exact absurd t c63
        · exact absurd t c42
        · have he := lt_n h0 g3 (by decide)
          have hP1 : 0 ≤ (pd_w v 198 28 ((v 198 28) - (1 : Int32)) 207 (8 + l)).toInt := by rw [pd_w_ne (by decide)]; exact (hPA (8 + l) (by omega) (by omega)).1
          refine sf_bind (ac_t hw hn (show 8 + l < 16 by omega) T1 he g4 g3 g6 c88 hP1) (fun q18 h18 => ?_)
          rw [su_t hw hn (TX_A T1 h18.1).2 he g3 g5]
          show Sf (bif pm_in (Int32.ofNat l) 8 then d_Mo_goes_5 w f (Int32.ofNat l) (Int32.ofNat (8 + l)) (pd_w q18 210 l (Int32.ofNat e + (1 : Int32))) else none) _
          rw [ofN1]
          refine sf_c il (step hz _ ⟨⟨e + 1, k, ⟨pd_w_self, ?_, ?_, ?_⟩⟩, MB_w (MB_A h18.1) (by decide), OL_l (OL_A h18.1) (by decide), PG_w h18.2 (by decide), ?_, ?_⟩)
          · have := xR_s a2 hs
            rw [g1, g2] at this
            exact this
          · rw [pd_w_ne (by decide), h18.1.1 211 (by decide) (by omega) (by decide) (by decide) (by omega)]
            exact S1.2.2.1
          · exact LM_e S1.2.2.2 (fun i _ => by rw [pd_w_ne (by decide), h18.1.1 212 (by decide) (by omega) (by decide) (by decide) (by omega)])
          · rw [pd_w_ne (by decide), h18.1.2 28 (by decide) (by decide)]
          · rw [pd_wa (by decide), h18.1.1 215 (by decide) (by omega) (by decide) (by decide) (by omega)]
      · refine sf_c il (sf_some (GO_i ⟨AV_w hA (by omega), MB_w MB_r (by decide), by rw [pd_w_ne (by decide)]; exact Int.le_refl _, OL_l OL_r (by decide), fun _ => ⟨p, k, zLS_e hS (pd_w_ne (by decide)) (pd_w_ne (by decide)) (fun i _ => pd_w_ne (by decide)), c88⟩⟩))
    · rcases xns_c hs with ⟨-, a, m, k1, ek, -⟩ | ⟨t | t, -⟩ | ⟨e, -, -, -, -, -, t⟩
      · subst ek
        refine sf_bind (lv_t hw hn h0 hW hl hT c125 hS) (fun q hq => ?_)
        obtain ⟨⟨p2, k2, q1, q1'⟩, q2, q3, q4, q5, q6, q7⟩ := hq
        have hp2 := xR_le h0 hW q1.2.1
        have Aq : AV s n q := by
          refine ⟨TX_B hT q2, fun j hj => ?_, by rw [q6]; exact h28, fun j b c => by rw [q4, q6]; exact hPA j b c⟩
          by_cases e : j = l
          · subst e
            exact ⟨p2, k2, q1⟩
          · exact LI_o (hLI j hj) hj e q3
        refine sf_mono (ih p2 k2 q Aq q1 (by rw [q7]; exact h215) ?_) (fun r hr => ⟨hr.1, MB_t q2 hr.2.1, by have := hr.2.2.1; rw [q6] at this; exact this, OL_t q3 hr.2.2.2.1, hr.2.2.2.2⟩)
        rw [q6]
        rw [if_pos c125] at hf
        rcases q1' with h | h
        · have : (if s p2 = 125 then 200 else 0) ≤ 200 := by split <;> omega
          omega
        · have : (if s p2 = 125 then 200 else 0) = 0 := if_neg (by rw [h]; decide)
          omega
      · rw [t] at c125; exact absurd c125 (by decide)
      · rw [t] at c125; exact absurd c125 (by decide)
      · exact absurd c125 (XS_h t).1
theorem gs_t (hw : 4294967296 < w) (hn : n ≤ 160) (h0 : ∀ j, n ≤ j → s j = 0) (hW : xR s n []) (hl : l < 8) (hA : AV s n v) (h215 : v 215 l = 0) : Sf (d_Mo_goes w (Int32.ofNat l) v) (GO s n l v) := by
  obtain ⟨p, k, hS⟩ := hA.2.1 l hl
  have h28 := hA.2.2.1
  unfold d_Mo_goes
  rw [show (8 : Int32) + Int32.ofNat l = Int32.ofNat (8 + l) from (Int32.ofNat_add 8 l).symm]
  have : (if s p = 125 then 200 else 0) ≤ 200 := by split <;> omega
  exact gs_m hw hn h0 hW hl w p k v hA hS h215 (by omega)
/-! a round -/
def RO (s : Nat → Int32) (n : Nat) (L0 : Int) (v : pd_V) (r : Int32 × pd_V) : Prop := AV s n r.2 ∧ MB v r.2 ∧ (r.2 198 28).toInt ≤ L0 ∧ (r.1 = 1 → (r.2 198 28).toInt + 1 ≤ L0)
theorem RO_i {L0 : Int} {y : Int32} (h1 : AV s n u) (h2 : MB v u) (h3 : (u 198 28).toInt ≤ L0) (h4 : y = 1 → (u 198 28).toInt + 1 ≤ L0) : RO s n L0 v (y, u) := ⟨h1, h2, h3, h4⟩
theorem rd_m {L0 : Int} (hw : 4294967296 < w) (hn : n ≤ 160) (h0 : ∀ j, n ≤ j → s j = 0) (hW : xR s n []) : ∀ (f l : Nat) (y z : Int32) (v : pd_V), AV s n v → (∀ j, l ≤ j → j < 8 → XW s j v) → (z = -1 ∨ ∃ x e, z = Int32.ofNat x ∧ s x = 88 ∧ XS s x e ∧ e < n ∧ (v 198 28).toInt + 1 ≤ L0) → (v 198 28).toInt ≤ L0 → l ≤ 8 → 8 - l < f → Sf (d_Mo_round_49 w f y z (Int32.ofNat l) v) (RO s n L0 v) := by
  intro f
  induction f with
  | zero => intro l y z v _ _ _ _ _ h; exact absurd h (Nat.not_lt_zero _)
  | succ f ih =>
    intro l y z v hA hX hz hL hl hf
    rw [d_Mo_round_49, decide_eq_decide.mpr (lane8 hl)]
    refine sf_d (fun c => ?_) (fun c => ?_)
    · rcases hz with hz | ⟨x, e, z1, z2, z3, z4, z5⟩
      · rw [hz]
        exact sf_d (fun c => absurd c (by decide)) (fun _ => sf_some (RO_i hA MB_r hL (fun c => absurd c (by decide))))
      · obtain ⟨v1, v2, hE⟩ := XS_X z3 z2
        have hx := (xE_g hE).2
        rw [z1, ofN1 x, ofN2 x, cl_nat (show x + 1 ≤ 1000 by omega), cl_nat (show x + 2 ≤ 1000 by omega), hA.1.2 (x + 1) (by omega), hA.1.2 (x + 2) (by omega)]
        have go : Sf (bif pm_in (Int32.ofNat (x + 1)) 160 then bif pm_in (Int32.ofNat (x + 2)) 160 then (d_Mo_exchange w (8 : Int32) y (s (x + 1) - (97 : Int32)) (s (x + 2) - (97 : Int32)) v).bind fun q5 => some ((1 : Int32), q5) else none else none) (RO s n L0 v) := by
          refine sf_c (in_nat (by omega) (by omega)) (sf_c (in_nat (by omega) (by omega)) ?_)
          refine sf_bind (ex_t (a := 8) hw (Or.inr rfl) (vlet v1) (vlet v2)) (fun q5 h5 => sf_some ?_)
          have B5 := MB_A h5.1
          have e28 : q5 198 28 = v 198 28 := h5.1.2 28 (by decide) (by decide)
          refine RO_i ⟨TX_B hA.1 B5, fun j hj => ?_, by rw [e28]; exact hA.2.2.1, fun j a b => by rw [h5.2, e28]; exact hA.2.2.2 j a b⟩ B5 (by rw [e28]; exact hL) (fun _ => by rw [e28]; exact z5)
          obtain ⟨p, k, h⟩ := hA.2.1 j hj
          exact ⟨p, k, zLS_e h (by rw [h5.1.1 210 (by decide) (by omega) (by decide) (by decide) (by omega)]) (by rw [h5.1.1 211 (by decide) (by omega) (by decide) (by decide) (by omega)]) (fun i _ => by rw [h5.1.1 212 (by decide) (by omega) (by decide) (by decide) (by omega)])⟩
        refine sf_b (fun _ => go) (fun c => ?_)
        exfalso
        have c2 : ¬ (0 : Int32) ≤ Int32.ofNat x := of_decide_eq_false c
        exact c2 (Int32.le_iff_toInt_le.mpr (by rw [Int32.toInt_ofNat_of_lt (show x < 2 ^ 31 by omega)]; have := sI_0; omega))
    · have hl8 : l < 8 := by omega
      have il : pm_in (Int32.ofNat l) 8 = true := in_nat hl8 (by omega)
      have il2 : pm_in (Int32.ofNat (8 + l)) 16 = true := in_nat (by omega) (by omega)
      rw [ofN1 l, show (8 : Int32) + Int32.ofNat l = Int32.ofNat (8 + l) from (Int32.ofNat_add 8 l).symm, cl_nat (show l ≤ 1000 by omega), cl_nat (show 8 + l ≤ 1000 by omega)]
      refine sf_c il ?_
      refine sf_n (fun cw => ?_) (fun _ => ?_)
      · obtain ⟨p, k, hS, hs⟩ := hX l (Nat.le_refl _) hl8 cw
        obtain ⟨a1, a2, a3, a4⟩ := id hS
        refine sf_n (fun c28 => ?_) (fun _ => sf_some (RO_i hA MB_r hL (fun c => absurd c (by decide))))
        have h28 := hA.2.2.1
        have hz2 : 0 < (v 198 28).toInt := by
          have : (v 198 28).toInt ≠ (0 : Int32).toInt := fun q => c28 (Int32.toInt.inj q)
          have z := sI_0
          omega
        have hp : p < n := lt_n h0 hs (by decide)
        have hns : ∃ p' k', xns s p k = (true, p', k') := by
          rcases xR_n h0 hW a2 with ⟨e, -⟩ | e
          · omega
          · exact e
        obtain ⟨p', k', hs'⟩ := hns
        rcases xns_c hs' with ⟨t, -⟩ | ⟨t | t, -⟩ | ⟨e, g1, g2, g3, g4, g5, g6⟩
        · rw [t] at hs; exact absurd hs (by decide)
        · rw [t] at hs; exact absurd hs (by decide)
        · rw [t] at hs; exact absurd hs (by decide)
        · have he := lt_n h0 g3 (by decide)
          obtain ⟨v1, v2, hE⟩ := XS_X g6 hs
          have B1 : MB v (pd_w v 198 28 ((v 198 28) - (1 : Int32))) := MB_k MB_r (by decide)
          have T1 := TX_B hA.1 B1
          rw [a1, ofN3]
          refine sf_c il ?_
          refine sf_bind (va_t (m := 4) (fx := 200) hw hn (by omega) (show 8 + l < 16 by omega) he (xdig_59 g3) (by omega) T1 hE) (fun q10 h10 => ?_)
          have M10 := MA_E h10.1
          have up : d_Mo_upTo w 200 160 (Int32.ofNat p) (59 : Int32) (59 : Int32) (pd_w q10.2 214 l q10.1) = some (Int32.ofNat e) := su_t hw hn (fun j hj => by rw [pd_w_ne (by decide)]; exact (TX_A T1 M10).2 j hj) he g3 g5
          have BB : MB v (pd_w (pd_w q10.2 214 l q10.1) 210 l (Int32.ofNat (e + 1))) := MB_w (MB_w (MB_t B1 (MB_A M10)) (by decide)) (by decide)
          have OO : OL l v (pd_w (pd_w q10.2 214 l q10.1) 210 l (Int32.ofNat (e + 1))) := OL_l (OL_w (OL_t (OL_w OL_r (by decide)) (OL_A M10)) (by decide)) (by decide)
          have e28 : (pd_w (pd_w q10.2 214 l q10.1) 210 l (Int32.ofNat (e + 1)) 198 28).toInt = (v 198 28).toInt - 1 := by
            rw [pd_w_ne (by decide), pd_w_ne (by decide), M10.2 28 (by decide) (by decide), pd_w_self, sI_sub1 (by omega)]
          have SS : zLS s l (e + 1) k (pd_w (pd_w q10.2 214 l q10.1) 210 l (Int32.ofNat (e + 1))) := by
            refine ⟨pd_w_self, ?_, ?_, LM_e a4 (fun i _ => ?_)⟩
            · have := xR_s a2 hs'
              rw [g1, g2] at this
              exact this
            · rw [pd_w_ne (by decide), pd_w_ne (by decide), M10.1 211 (by decide) (by omega) (by decide) (by decide) (by omega), pd_w_ne (by decide)]
              exact a3
            · rw [pd_w_ne (by decide), pd_w_ne (by decide), M10.1 212 (by decide) (by omega) (by decide) (by decide) (by omega), pd_w_ne (by decide)]
          have PP : PG (8 + l) v (pd_w (pd_w q10.2 214 l q10.1) 210 l (Int32.ofNat (e + 1))) := by
            have e207 : pd_w (pd_w q10.2 214 l q10.1) 210 l (Int32.ofNat (e + 1)) 207 = v 207 := by
              rw [pd_wa (by decide), pd_wa (by decide), h10.1.1 207 (by decide) (by decide) (by decide) (by omega), pd_wa (by decide)]
            exact ⟨fun j _ => by rw [e207], Or.inl (by rw [e207])⟩
          have AA := AV_s hl8 hA hz2 ⟨_, _, SS⟩ BB OO PP e28
          have go : ∀ y', Sf (d_Mo_round_49 w f y' (Int32.ofNat p) (Int32.ofNat (l + 1)) (pd_w (pd_w q10.2 214 l q10.1) 210 l (Int32.ofNat (e + 1)))) (RO s n L0 v) := by
            intro y'
            refine sf_mono (ih (l + 1) y' (Int32.ofNat p) _ AA (fun j b c => XW_o (hX j (by omega) c) c (by omega) OO) (Or.inr ⟨p, e, rfl, hs, g6, he, by omega⟩) (by omega) (by omega) (by omega)) (fun r hr => ⟨hr.1, MB_t BB hr.2.1, hr.2.2.1, hr.2.2.2⟩)
          refine sf_c il (sf_c il2 ?_)
          refine sf_d (fun _ => ?_) (fun _ => ?_)
          · rw [up]
            show Sf (bif pm_in (Int32.ofNat l) 8 then d_Mo_round_49 w f (y ||| ((1 : Int32) <<< (Int32.ofNat l &&& 31))) (Int32.ofNat p) (Int32.ofNat (l + 1)) (pd_w (pd_w q10.2 214 l q10.1) 210 l (Int32.ofNat e + (1 : Int32))) else none) _
            rw [ofN1 e]
            exact sf_c il (go _)
          · rw [up]
            show Sf (bif pm_in (Int32.ofNat l) 8 then d_Mo_round_49 w f y (Int32.ofNat p) (Int32.ofNat (l + 1)) (pd_w (pd_w q10.2 214 l q10.1) 210 l (Int32.ofNat e + (1 : Int32))) else none) _
            rw [ofN1 e]
            exact sf_c il (go _)
      · exact ih (l + 1) y z v hA (fun j a b => hX j (by omega) b) hz hL (by omega) (by omega)
theorem ro_m {L0 : Int} (hw : 4294967296 < w) (hn : n ≤ 160) (h0 : ∀ j, n ≤ j → s j = 0) (hW : xR s n []) : ∀ (f l : Nat) (v : pd_V), AV s n v → (∀ j, j < l → XW s j v) → (v 198 28).toInt ≤ L0 → l ≤ 8 → 8 - l < f → Sf (d_Mo_round_6 w f (0 : Int32) (-1 : Int32) (Int32.ofNat l) v) (RO s n L0 v) := by
  intro f
  induction f with
  | zero => intro l v _ _ _ _ h; exact absurd h (Nat.not_lt_zero _)
  | succ f ih =>
    intro l v hA hX hL hl hf
    rw [d_Mo_round_6, decide_eq_decide.mpr (lane8 hl)]
    refine sf_d (fun c => ?_) (fun c => ?_)
    · exact rd_m hw hn h0 hW w 0 _ _ v hA (fun j _ b => hX j (by omega)) (Or.inl rfl) hL (by omega) (by omega)
    · have hl8 : l < 8 := by omega
      have il : pm_in (Int32.ofNat l) 8 = true := in_nat hl8 (by omega)
      have il2 : pm_in (Int32.ofNat (8 + l)) 16 = true := in_nat (by omega) (by omega)
      rw [ofN1 l, show (8 : Int32) + Int32.ofNat l = Int32.ofNat (8 + l) from (Int32.ofNat_add 8 l).symm, cl_nat (show l ≤ 1000 by omega), cl_nat (show 8 + l ≤ 1000 by omega)]
      have A1 : AV s n (pd_w v 215 l (0 : Int32)) := AV_w hA (by omega)
      have B1 : MB v (pd_w v 215 l (0 : Int32)) := MB_w MB_r (by decide)
      have O1 : OL l v (pd_w v 215 l (0 : Int32)) := OL_l OL_r (by decide)
      have L1 : (pd_w v 215 l (0 : Int32) 198 28).toInt ≤ L0 := by rw [pd_w_ne (by decide)]; exact hL
      refine sf_c il (sf_c il2 ?_)
      refine sf_n (fun _ => ?_) (fun _ => ?_)
      · refine sf_mono (ih (l + 1) _ A1 (fun j hj => ?_) L1 (by omega) (by omega)) (fun r hr => ⟨hr.1, MB_t B1 hr.2.1, hr.2.2.1, hr.2.2.2⟩)
        by_cases e : j = l
        · subst e
          exact XW_0 pd_w_self
        · exact XW_o (hX j (by omega)) (by omega) e O1
      · refine sf_bind (gs_t hw hn h0 hW hl8 A1 pd_w_self) (fun q5 h5 => ?_)
        obtain ⟨g1, g2, g3, g4, g5⟩ := h5
        have B5 := MB_t B1 g2
        refine sf_n (fun _ => ?_) (fun _ => sf_some (RO_i g1 B5 (by omega) (fun c => absurd c (by decide))))
        refine sf_mono (ih (l + 1) q5.2 g1 (fun j hj => ?_) (by omega) (by omega) (by omega)) (fun r hr => ⟨hr.1, MB_t B5 hr.2.1, hr.2.2.1, hr.2.2.2⟩)
        by_cases e : j = l
        · subst e
          exact g5
        · exact XW_o (hX j (by omega)) (by omega) e (OL_t O1 g4)
theorem rn_t (hw : 4294967296 < w) (hn : n ≤ 160) (h0 : ∀ j, n ≤ j → s j = 0) (hW : xR s n []) (hA : AV s n v) : Sf (d_Mo_round w v) (RO s n (v 198 28).toInt v) := by
  unfold d_Mo_round
  exact ro_m hw hn h0 hW w 0 v hA (fun j hj => by omega) (Int.le_refl _) (by omega) (by omega)
theorem a90 (hw : 4294967296 < w) (hn : n ≤ 160) (h0 : ∀ j, n ≤ j → s j = 0) (hW : xR s n []) : ∀ (f : Nat) (z : Int32) (v : pd_V), AV s n v → ((z = 1 ∧ ((v 198 28).toInt).toNat + 1 < f) ∨ (z ≠ 1 ∧ 0 < f)) → Sf (d_Mo_alone_90 w f z v) (fun r => MB v r.2) := by
  intro f
  induction f with
  | zero => intro z v _ h; exact absurd h (by omega)
  | succ f ih =>
    intro z v hA hz
    rw [d_Mo_alone_90]
    refine sf_n (fun c => ?_) (fun c => ?_)
    · have m0 : ∀ y : Int32, MB v (pd_w v 198 27 y) := fun y => MB_k MB_r (by decide)
      refine sf_n (fun _ => ?_) (fun _ => ?_)
      · exact sf_d (fun _ => sf_some (m0 _)) (fun _ => sf_some (m0 _))
      · exact sf_d (fun _ => sf_some (m0 _)) (fun _ => sf_some (m0 _))
    · have hz2 : ((v 198 28).toInt).toNat + 1 < f + 1 := by
        rcases hz with h | h
        · exact h.2
        · exact absurd c h.1
      refine sf_bind (rn_t hw hn h0 hW hA) (fun q5 h5 => ?_)
      have b := h5.1.2.2.1
      refine sf_mono (ih q5.1 q5.2 h5.1 ?_) (fun r hr => MB_t h5.2.1 hr)
      by_cases e : q5.1 = 1
      · have := h5.2.2.2 e
        exact Or.inl ⟨e, by omega⟩
      · exact Or.inr ⟨e, by omega⟩
theorem a57 {y : Int32} (hw : 4294967296 < w) (hn : n ≤ 160) (h0 : ∀ j, n ≤ j → s j = 0) (hW : xR s n []) (hy : 0 ≤ y.toInt ∧ y.toInt ≤ 4000) : ∀ (f l : Nat) (v : pd_V), TX n s v → (∀ j, j < l → zLS s j 0 [] v) → (∀ j, 8 ≤ j → j < 16 → v 207 j = 0) → l ≤ 8 → 8 - l < f → Sf (d_Mo_alone_57 w f y (Int32.ofNat l) v) (fun r => MB v r.2) := by
  intro f
  induction f with
  | zero => intro l v _ _ _ _ h; exact absurd h (Nat.not_lt_zero _)
  | succ f ih =>
    intro l v hT hS hP hl hf
    rw [d_Mo_alone_57, decide_eq_decide.mpr (lane8 hl)]
    refine sf_d (fun c => ?_) (fun c => ?_)
    · have B1 : MB v (pd_w v 198 28 y) := MB_k MB_r (by decide)
      have z := sI_0
      have e28 : pd_w v 198 28 y 198 28 = y := pd_w_self
      refine sf_mono (a90 hw hn h0 hW w 1 (pd_w v 198 28 y) ⟨TX_B hT B1, fun j hj => ⟨0, [], zLS_e (hS j (by omega)) (pd_w_ne (by decide)) (pd_w_ne (by decide)) (fun i _ => pd_w_ne (by decide))⟩, by rw [e28]; exact hy, fun j a b => by rw [e28, pd_w_ne (by decide), hP j a b]; omega⟩ (Or.inl ⟨rfl, by rw [e28]; omega⟩)) (fun r hr => MB_t B1 hr)
    · have il : pm_in (Int32.ofNat l) 8 = true := in_nat (by omega) (by omega)
      rw [ofN1 l, cl_nat (show l ≤ 1000 by omega)]
      have B1 : MB v (pd_w (pd_w v 210 l (0 : Int32)) 211 l (0 : Int32)) := MB_w (MB_w MB_r (by decide)) (by decide)
      refine sf_c il (sf_c il (sf_mono (ih (l + 1) _ (TX_B hT B1) (fun j hj => ?_) (fun j a b => by rw [pd_w_ne (by decide), pd_w_ne (by decide)]; exact hP j a b) (by omega) (by omega)) (fun r hr => MB_t B1 hr)))
      by_cases e : j = l
      · subst e
        exact ⟨by rw [pd_w_ne (by decide), pd_w_self]; rfl, ⟨0, rfl⟩, by rw [pd_w_self]; rfl, trivial⟩
      · have h := hS j (by omega)
        exact ⟨by rw [pd_w_ne (by decide), pd_w_nk e]; exact h.1, ⟨0, rfl⟩, by rw [pd_w_nk e, pd_w_ne (by decide)]; exact h.2.2.1, trivial⟩
theorem JM_B {b : Int} (h : JM b v) (e : MB v q) : JM b q := JM_e h (fun a ha => e.1 a (by omega)) (fun k hk => e.2 k (by omega) (by omega) (by omega))
theorem FM_B (h : MB v q) : FM v q := ⟨fun a ha => h.1 a (Or.inl ha), h.2 2 (by decide) (by decide) (by decide)⟩
theorem an_t {y : Int32} {b : Int} (hw : 4294967296 < w) (hJ : JM b v) : Sf (d_Mo_alone w y v) (fun r => JM b r.2 ∧ FM v r.2) := by
  have F0 : ∀ k : Int32, FM v (pd_w v 198 0 k) := fun k => FM_k FM_r (by decide)
  have J0 : ∀ k : Int32, JM b (pd_w v 198 0 k) := fun k => JM_k hJ (by decide)
  unfold d_Mo_alone
  refine sf_n (fun c5 => ?_) (fun c5 => ?_)
  · refine sf_d (fun c => absurd c c5) (fun _ => ?_)
    refine sf_d (fun cb => ?_) (fun _ => ?_)
    · have b2 := bey0 cb
      have z1 := sI_1
      have z5 : (4000 : Int32).toInt = 4000 := by decide
      rw [thr_0]
      refine sf_sb ?_
      refine sf_d (fun _ => ?_) (fun c => absurd rfl c)
      have e5 : pd_w v 198 0 (0 : Int32) 198 5 = v 198 5 := pd_w_nk (by decide)
      obtain ⟨n, s, g1, g2, g3, g4⟩ := (J0 0).2.2.2.1 (by rw [e5]; exact c5)
      refine sf_bind (bg_t (a0 := 8) hw (Or.inr rfl)) (fun q8 h8 => ?_)
      have B8 := MB_A h8.1
      refine sf_mono (a57 hw g1 g2 g3 (by omega) w 0 q8 (TX_B g4 B8) (fun j hj => by omega) (fun j a b => h8.2 j a (by omega)) (by omega) (by omega)) (fun r hr => ⟨JM_B (J0 0) (MB_t B8 hr), FM_t (F0 0) (FM_B (MB_t B8 hr))⟩)
    · rw [thr_2]
      refine sf_sb ?_
      exact sf_d (fun c => absurd (show (1 : Int32) = 0 from c) (by decide)) (fun _ => sf_some ⟨J0 2, F0 2⟩)
  · rw [show decide (v 198 5 = 0) = true from decide_eq_true c5]
    refine sf_tt ?_
    rw [thr_1]
    refine sf_sb ?_
    exact sf_d (fun c => absurd (show (1 : Int32) = 0 from c) (by decide)) (fun _ => sf_some ⟨J0 1, F0 1⟩)
end AN2
