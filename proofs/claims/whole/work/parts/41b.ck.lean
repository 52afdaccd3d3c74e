/-! the class reckons, item by item -/
section ZCL
variable {s : Nat → Int32} {n m w a c l p q i : Nat} {v u t : pd_V} {x y : Int32} {e : xEv} {st : List Int32}
theorem pf_t {α : Type} {A B : Option α} {Q : α → Prop} (h : Pf A Q) : Pf (bif true then A else B) Q := h
theorem pf_f {α : Type} {A B : Option α} {Q : α → Prop} (h : Pf B Q) : Pf (bif false then A else B) Q := h
theorem pf_sb {α β : Type} {z : α} {F : α → Option β} {Q : β → Prop} (h : Pf (F z) Q) : Pf (Option.bind (some z) F) Q := h
theorem pf_mono {α : Type} {z : Option α} {P Q : α → Prop} (h : Pf z P) (k : ∀ r, P r → Q r) : Pf z Q := fun r e => k r (h r e)
theorem pf_d {α : Type} {P : Prop} [Decidable P] {A B : Option α} {Q : α → Prop} (h1 : P → Pf A Q) (h2 : ¬ P → Pf B Q) : Pf (bif decide P then A else B) Q := by
  by_cases h : P
  · rw [decide_eq_true h]; exact h1 h
  · rw [decide_eq_false h]; exact h2 h
theorem pf_n {α : Type} {P : Prop} [Decidable P] {A B : Option α} {Q : α → Prop} (h1 : ¬ P → Pf A Q) (h2 : P → Pf B Q) : Pf (bif !(decide P) then A else B) Q := by
  by_cases h : P
  · rw [decide_eq_true h]; exact h2 h
  · rw [decide_eq_false h]; exact h1 h
theorem inp_1 (h : d_Mo_beyond x 0 15 = 0) : d_Cr_inputAt c x v = some (v (c + 1) x.toNatClampNeg, v) := by
  have b := bey0 h
  have e0 := sI_0
  have e15 : (15 : Int32).toInt = 15 := by decide
  unfold d_Cr_inputAt
  rw [out_b (k' := 15) (by decide), h, pin (n := 16) (by omega)]
  rfl
theorem inp_0 (h : d_Mo_beyond x 0 15 ≠ 0) : d_Cr_inputAt c x v = some (0, pd_w v c 9 (1 : Int32)) := by
  unfold d_Cr_inputAt
  rw [out_b (k' := 15) (by decide), decide_eq_false h]
  rfl
theorem own_1 (hl : l < 8) (h : d_Mo_beyond x 0 7 = 0) : d_Cr_ownCellAt c (Int32.ofNat l) x v = some (v (c + 3) (8 * l + x.toNatClampNeg), v) := by
  have b := bey0 h
  have e0 := sI_0
  have e7 : (7 : Int32).toInt = 7 := by decide
  have sl := slot_v (l := l) (x := x) hl (by omega)
  unfold d_Cr_ownCellAt
  rw [out_b (k' := 7) (by decide), h, sl.1, in_nat (by omega) (by omega), cl_nat (by omega)]
  rfl
theorem own_0 (h : d_Mo_beyond x 0 7 ≠ 0) : d_Cr_ownCellAt c (Int32.ofNat l) x v = some (0, pd_w v c 9 (1 : Int32)) := by
  unfold d_Cr_ownCellAt
  rw [out_b (k' := 7) (by decide), decide_eq_false h]
  rfl
theorem var_1 (hl : l < 8) (h : 0 ≤ x.toInt ∧ x.toInt ≤ 7) : d_Cr_variableOf c (Int32.ofNat l) x v = some (v (c + 2) (8 * l + x.toNatClampNeg)) := by
  have sl := slot_v (l := l) (x := x) hl h
  unfold d_Cr_variableOf
  rw [sl.1, in_nat (by omega) (by omega), cl_nat (by omega)]
  rfl
theorem zck_m (hl : l < 8) (ha : ker a) (hc : crw c) : ∀ (it : List (Int32 × Int32)) (i : Nat) (st : List Int32) (v : pd_V) (f : Nat), (∀ t y, it[t]? = some y → v (a + 2) (i + t) = y.1 ∧ v (a + 3) (i + t) = y.2) → i + it.length ≤ 160 → SK c st v → st.length ≤ 7 → v c 9 = 0 → HB e it st 7 → CE e c l v → Pf (d_Cr_reckon_6 w f c a (Int32.ofNat (i + it.length)) (Int32.ofNat l) (Int32.ofNat st.length) (Int32.ofNat i) v) (fun r => CKR c (pfx e it st) r ∧ RKF c v r.2) := by
  have pa : a = 3 ∨ a = 88 := ha
  have pc : c = 174 ∨ c = 187 := hc
  intro it
  induction it with
  | nil =>
    intro i st v f hI hi hS hst h9 hB hCE
    cases f with
    | zero => rw [d_Cr_reckon_6]; exact pf_none
    | succ f =>
      rw [d_Cr_reckon_6, show i + ([] : List (Int32 × Int32)).length = i from rfl, le_nat (by have : i + 0 ≤ 160 := hi; omega) (by have : i + 0 ≤ 160 := hi; omega), decide_eq_true (Nat.le_refl i), zand7 hst, cl_nat (by omega)]
      exact pf_t (pf_c (fun _ => pf_some ⟨⟨h9, rfl, hS⟩, RKF_r⟩))
  | cons y it ih =>
    intro i st v f hI hi hS hst h9 hB hCE
    have hi' : i + (it.length + 1) ≤ 160 := hi
    have hlen : i + (y :: it).length = i + 1 + it.length := by
      show i + (it.length + 1) = i + 1 + it.length
      omega
    have h0 : v (a + 2) i = y.1 ∧ v (a + 3) i = y.2 := hI 0 y rfl
    have go : ∀ (f : Nat) (st' : List Int32) (u : pd_V), pf1 e y st = some st' → SK c st' u → u c 9 = 0 → RKF c v u → Pf (d_Cr_reckon_6 w f c a (Int32.ofNat (i + (y :: it).length)) (Int32.ofNat l) (Int32.ofNat st'.length) (Int32.ofNat (i + 1)) u) (fun r => CKR c (pfx e (y :: it) st) r ∧ RKF c v r.2) := by
      intro f st' u h1 h2 h3 h4
      have hb := hB.2.2 st' h1
      have hI2 : ∀ t z, it[t]? = some z → u (a + 2) (i + 1 + t) = z.1 ∧ u (a + 3) (i + 1 + t) = z.2 := by
        intro t z hz
        have := hI (t + 1) z hz
        rw [h4.1 (a + 2) (by omega) (by omega), h4.1 (a + 3) (by omega) (by omega), show i + 1 + t = i + (t + 1) by omega]
        exact this
      have := ih (i + 1) st' u f hI2 (by omega) h2 hb.1 h3 hb.2 (CE_F hCE h4)
      rw [hlen]
      refine pf_mono this (fun r hr => ⟨?_, RKF_t h4 hr.2⟩)
      show CKR c ((pf1 e y st).bind (pfx e it)) r
      rw [h1]
      exact hr.1
    have trp : ∀ (f : Nat) (k : Int32) (u : pd_V), pf1 e y st = none → u c 9 = 1 → RKF c v u → Pf (d_Cr_reckon_6 w f c a (Int32.ofNat (i + (y :: it).length)) (Int32.ofNat l) k (Int32.ofNat (i + 1)) u) (fun r => CKR c (pfx e (y :: it) st) r ∧ RKF c v r.2) := by
      intro f k u h1 h2 h3
      have fin : ∀ (r : Int32 × pd_V), r.2 = u → CKR c (pfx e (y :: it) st) r ∧ RKF c v r.2 := by
        intro r hr
        refine ⟨?_, by rw [hr]; exact h3⟩
        show CKR c ((pf1 e y st).bind (pfx e it)) r
        rw [h1]
        show r.2 c 9 = 1
        rw [hr]
        exact h2
      cases f with
      | zero => rw [d_Cr_reckon_6]; exact pf_none
      | succ f =>
        rw [d_Cr_reckon_6]
        exact pf_b (pf_c (fun _ => pf_some (fin _ rfl))) (pf_n (fun _ => pf_c (fun _ => pf_some (fin _ rfl))) (fun z => absurd (h2.symm.trans z) (by decide)))
    cases f with
    | zero => rw [d_Cr_reckon_6]; exact pf_none
    | succ f =>
      rw [d_Cr_reckon_6, le_nat (by omega) (by omega), decide_eq_false (show ¬ i + (y :: it).length ≤ i by omega)]
      refine pf_f (pf_n (fun z => absurd h9 z) (fun _ => ?_))
      rw [kat (show i < 160 by omega), vat (show i < 160 by omega)]
      refine pf_sb ?_
      rw [h0.1, h0.2, ofN1 i, ofN1 st.length]
      have push : ∀ (x : Int32), pf1 e y st = some (x :: st) → Pf (bif pm_in (Int32.ofNat (st.length + 1) &&& (7 : Int32)) 8 then d_Cr_reckon_6 w f c a (Int32.ofNat (i + (y :: it).length)) (Int32.ofNat l) (Int32.ofNat (st.length + 1)) (Int32.ofNat (i + 1)) (pd_w v (c + 7) ((Int32.ofNat (st.length + 1) &&& (7 : Int32)).toNatClampNeg) x) else none) (fun r => CKR c (pfx e (y :: it) st) r ∧ RKF c v r.2) := by
        intro x h1
        have hb := (hB.2.2 _ h1).1
        have hb' : st.length + 1 ≤ 7 := hb
        rw [zand7 hb', cl_nat (by omega)]
        exact pf_c (fun _ => go f (x :: st) _ h1 (SK_p hS) (by rw [pd_w_ne (by omega)]; exact h9) (RKF_7 RKF_r))
      refine pf_d (fun c48 => pf_sb (push y.2 (by unfold pf1; rw [decide_eq_true c48]; rfl))) (fun c48 => ?_)
      refine pf_d (fun c73 => ?_) (fun c73 => ?_)
      · cases st with
        | nil => exact absurd rfl (hB.1 (by unfold pf1; rw [decide_eq_false c48, decide_eq_true c73]; rfl)).2
        | cons z st0 =>
          have hp1 : pf1 e y (z :: st0) = (xbk e 73 z).map (fun x => x :: st0) := by unfold pf1; rw [decide_eq_false c48, decide_eq_true c73]; rfl
          have hz := SK_h hS
          rw [show (z :: st0).length = st0.length + 1 from rfl, zand7 (show st0.length + 1 ≤ 7 from hst), cl_nat (by have : st0.length + 1 ≤ 7 := hst; omega), hz]
          refine pf_c (fun _ => ?_)
          by_cases hb : d_Mo_beyond z 0 15 = 0
          · rw [inp_1 hb]
            refine pf_sb (pf_c (fun _ => ?_))
            have hx : xbk e 73 z = some (v (c + 1) z.toNatClampNeg) := by
              unfold xbk
              rw [decide_eq_true hb]
              show some (e.2.1 z.toNatClampNeg) = _
              have b := bey0 hb
              have e0 := sI_0
              have e15 : (15 : Int32).toInt = 15 := by decide
              have hlt : z.toNatClampNeg < 16 := by
                show z.toInt.toNat < 16
                omega
              rw [hCE.2.1 _ hlt]
            exact go f (v (c + 1) z.toNatClampNeg :: st0) _ (by rw [hp1, hx]; rfl) (SK_r hS) (by rw [pd_w_ne (by omega)]; exact h9) (RKF_7 RKF_r)
          · rw [inp_0 hb]
            refine pf_sb (pf_c (fun _ => ?_))
            have hx : xbk e 73 z = none := by
              unfold xbk
              rw [decide_eq_false hb]
              rfl
            exact trp f _ _ (by rw [hp1, hx]; rfl) (by rw [pd_w_ne (by omega)]; exact pd_w_self) (RKF_7 (RKF_9 RKF_r))
      refine pf_d (fun c76 => ?_) (fun c76 => ?_)
      · cases st with
        | nil => exact absurd rfl (hB.1 (by unfold pf1; rw [decide_eq_false c48, decide_eq_false c73, decide_eq_true c76]; rfl)).2
        | cons z st0 =>
          have hp1 : pf1 e y (z :: st0) = (xbk e 76 z).map (fun x => x :: st0) := by unfold pf1; rw [decide_eq_false c48, decide_eq_false c73, decide_eq_true c76]; rfl
          have hz := SK_h hS
          rw [show (z :: st0).length = st0.length + 1 from rfl, zand7 (show st0.length + 1 ≤ 7 from hst), cl_nat (by have : st0.length + 1 ≤ 7 := hst; omega), hz]
          refine pf_c (fun _ => ?_)
          by_cases hb : d_Mo_beyond z 0 7 = 0
          · rw [own_1 hl hb]
            refine pf_sb (pf_c (fun _ => ?_))
            have hx : xbk e 76 z = some (v (c + 3) (8 * l + z.toNatClampNeg)) := by
              unfold xbk
              rw [decide_eq_true hb]
              show some (e.2.2.1 z.toNatClampNeg) = _
              have b := bey0 hb
              have e0 := sI_0
              have e7 : (7 : Int32).toInt = 7 := by decide
              have hlt : z.toNatClampNeg < 8 := by
                show z.toInt.toNat < 8
                omega
              rw [hCE.2.2.1 _ hlt]
            exact go f (v (c + 3) (8 * l + z.toNatClampNeg) :: st0) _ (by rw [hp1, hx]; rfl) (SK_r hS) (by rw [pd_w_ne (by omega)]; exact h9) (RKF_7 RKF_r)
          · rw [own_0 hb]
            refine pf_sb (pf_c (fun _ => ?_))
            have hx : xbk e 76 z = none := by
              unfold xbk
              rw [decide_eq_false hb]
              rfl
            exact trp f _ _ (by rw [hp1, hx]; rfl) (by rw [pd_w_ne (by omega)]; exact pd_w_self) (RKF_7 (RKF_9 RKF_r))
      refine pf_d (fun c97 => ?_) (fun c97 => ?_)
      · refine pf_sb ?_
        have hr := hB.2.1 c97
        rw [var_1 hl hr]
        refine pf_sb (push _ ?_)
        unfold pf1
        rw [decide_eq_false c48, decide_eq_false c73, decide_eq_false c76, decide_eq_true c97]
        show some (e.1 y.2.toNatClampNeg :: st) = _
        have hlt : y.2.toNatClampNeg < 8 := by
          show y.2.toInt.toNat < 8
          omega
        rw [hCE.1 _ hlt]
      refine pf_d (fun c110 => ?_) (fun c110 => ?_)
      · refine push _ ?_
        unfold pf1
        rw [decide_eq_false c48, decide_eq_false c73, decide_eq_false c76, decide_eq_false c97, decide_eq_true c110]
        show some (e.2.2.2 :: st) = _
        rw [hCE.2.2.2]
      · have hno : ∀ st : List Int32, pf1 e y st = (bif st.tail.isEmpty then none else some (d_Cr_joined y.1 (st.tail.headD 0) (st.headD 0) :: st.tail.tail)) := by
          intro st
          unfold pf1
          rw [decide_eq_false c48, decide_eq_false c73, decide_eq_false c76, decide_eq_false c97, decide_eq_false c110]
          rfl
        have bad : pf1 e y st = none → False := fun h => by
          rcases (hB.1 h).1 with z | z
          · exact c73 z
          · exact c76 z
        cases st with
        | nil => exact absurd (hno []) (fun z => bad z)
        | cons z1 st =>
          cases st with
          | nil => exact absurd (hno [z1]) (fun z => bad z)
          | cons z2 st0 =>
            have h7 : st0.length + 1 + 1 ≤ 7 := hst
            have e1 := SK_h hS
            have e2 := SK_h (SK_t hS)
            rw [show (z1 :: z2 :: st0).length = st0.length + 1 + 1 from rfl, ofNm, ofN1 (st0.length + 1), zand7 (show st0.length + 1 ≤ 7 by omega), zand7 h7, cl_nat (show st0.length + 1 ≤ 1000 by omega), cl_nat (show st0.length + 1 + 1 ≤ 1000 by omega), e2]
            have e1' : v (c + 7) (st0.length + 1 + 1) = z1 := e1
            rw [e1']
            exact pf_c (fun _ => pf_c (fun _ => pf_c (fun _ => go f (d_Cr_joined y.1 z2 z1 :: st0) _ (hno _) (SK_r (SK_t hS)) (by rw [pd_w_ne (by omega)]; exact h9) (RKF_7 RKF_r))))
/-- an expression's worth for a lane of a crew -/
theorem zck_t {it : List (Int32 × Int32)} {ev : xEv → Option Int32} (hl : l < 8) (ha : ker a) (hc : crw c) (hW : ∀ t y, it[t]? = some y → v (a + 2) (i + t) = y.1 ∧ v (a + 3) (i + t) = y.2) (hi : i + it.length ≤ 160) (hX : EX s n 4 p q it ev) (h9 : v c 9 = 0) (hCE : CE e c l v) : Pf (d_Cr_reckon w c a (Int32.ofNat i) (Int32.ofNat (i + it.length)) (Int32.ofNat l) v) (fun r => RKF c v r.2 ∧ ((∃ x, ev e = some x ∧ r.1 = x ∧ r.2 c 9 = 0) ∨ (ev e = none ∧ r.2 c 9 = 1))) := by
  unfold d_Cr_reckon
  have := zck_m (w := w) (e := e) hl ha hc it i [] v w hW hi (fun t x hx => nomatch (show (none : Option Int32) = some x from hx)) (Nat.zero_le _) h9 (hX.2.2 e [] 7 (by show 0 + 4 + 2 ≤ 7; omega)) hCE
  refine pf_mono this (fun r hr => ⟨hr.2, ?_⟩)
  have h1 := hr.1
  rw [hX.1 e []] at h1
  cases hev : ev e with
  | none =>
    rw [hev] at h1
    exact Or.inr ⟨rfl, h1⟩
  | some x =>
    rw [hev] at h1
    have h2 : CKR c (some [x]) r := h1
    refine Or.inl ⟨x, rfl, ?_, h2.1⟩
    rw [h2.2.1]
    exact h2.2.2 0 x rfl
end ZCL
