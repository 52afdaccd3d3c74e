/-! what reading leaves alone -/
def Pf {α : Type} (x : Option α) (Q : α → Prop) : Prop := ∀ r, x = some r → Q r
def TG (a : Nat) (v q : pd_V) : Prop := kerOf (q 1 3) = a ∧ (∀ b, b ≠ 1 → b ≠ 87 → ¬ (a ≤ b ∧ b < a + 84) → q b = v b) ∧ q 1 1 = v 1 1 ∧ q 1 3 = v 1 3
section ZFR
variable {α β : Type} {a b k w l0 r0 : Nat} {v u q : pd_V} {x y l1 l2 l3 l4 : Int32}
theorem pf_none {Q : α → Prop} : Pf (none : Option α) Q := fun _ h => nomatch h
theorem pf_some {c : α} {Q : α → Prop} (h : Q c) : Pf (some c) Q := fun r e => by
  have : c = r := Option.some.inj e
  rw [← this]
  exact h
theorem pf_b {c : Bool} {A B : Option α} {Q : α → Prop} (h1 : Pf A Q) (h2 : Pf B Q) : Pf (bif c then A else B) Q := by
  cases c
  · exact h2
  · exact h1
theorem pf_c {c : Bool} {A : Option α} {Q : α → Prop} (h1 : c = true → Pf A Q) : Pf (bif c then A else none) Q := by
  cases c
  · exact pf_none
  · exact h1 rfl
theorem pf_bind {z : Option α} {F : α → Option β} {P : α → Prop} {Q : β → Prop} (h : Pf z P) (k : ∀ c, P c → Pf (F c) Q) : Pf (z.bind F) Q := by
  cases z with
  | none => exact pf_none
  | some c => exact k c (h c rfl)
theorem sf_pf {z : Option α} {P Q : α → Prop} (h : Sf z P) (k : Pf z Q) : Sf z (fun c => P c ∧ Q c) := by
  obtain ⟨c, e, p⟩ := h
  exact ⟨c, e, p, k c e⟩
theorem sf_sf {z : Option α} {P Q : α → Prop} (h : Sf z P) (k : Sf z Q) : Sf z (fun c => P c ∧ Q c) := by
  obtain ⟨c, e, p⟩ := h
  obtain ⟨d, f, q⟩ := k
  have t : d = c := Option.some.inj (f.symm.trans e)
  subst t
  exact ⟨d, e, p, q⟩
theorem TG_r (h : kerOf (v 1 3) = a) : TG a v v := ⟨h, fun _ _ _ _ => rfl, rfl, rfl⟩
theorem TG_e (h : TG a v u) : kerOf (u 1 3) = a := h.1
theorem TG_1 (h : TG a v u) (hk : k ≠ 1 ∧ k ≠ 3) : TG a v (pd_w u 1 k x) := ⟨by rw [pd_w_nk (fun e => hk.2 e.symm)]; exact h.1, fun c h1 h2 h3 => by rw [pd_wa h1]; exact h.2.1 c h1 h2 h3, by rw [pd_w_nk (fun e => hk.1 e.symm)]; exact h.2.2.1, by rw [pd_w_nk (fun e => hk.2 e.symm)]; exact h.2.2.2⟩
theorem TG_o (h : TG a v u) (hb : b ≠ 1) (hc : b = 87 ∨ (a ≤ b ∧ b < a + 84)) : TG a v (pd_w u b k x) := ⟨by rw [pd_w_ne (fun e => hb e.symm)]; exact h.1, fun c h1 h2 h3 => by
  have hne : c ≠ b := fun e => by
    subst e
    exact hc.elim h2 h3
  rw [pd_wa hne]
  exact h.2.1 c h1 h2 h3, by rw [pd_w_ne (fun e => hb e.symm)]; exact h.2.2.1, by rw [pd_w_ne (fun e => hb e.symm)]; exact h.2.2.2⟩
theorem TG_87 (h : TG a v u) : TG a v (pd_w u 87 k x) := TG_o h (by decide) (Or.inl rfl)
theorem TG_s (h : TG a v u) (hb : a + 4 ≤ b ∧ b < a + 84) : TG a v (pd_w u b k x) := TG_o h (by omega) (Or.inr (by omega))
theorem TG_k (h : TG a v u) (ha : ker a) {i : Nat} (hi : i ≤ 3) : TG a v (pd_w u (a + i) k x) := TG_o h (by rcases ha with e | e <;> omega) (Or.inr (by omega))
theorem f_empty (ha : ker a) (he : l0 = a) (h : TG a v u) : Pf (d_Ke_empty l0 u) (TG a v) := by
  subst he
  unfold d_Ke_empty
  exact pf_some (TG_k (i := 0) (TG_k (i := 0) h ha (by omega)) ha (by omega))
theorem f_next : Pf (d_Re_next u) (fun _ => True) := fun _ _ => trivial
theorem f_stepAt (he : l0 = a) : Pf (d_Ke_stepAt l0 l1 u) (fun r => a + 4 ≤ r ∧ r < a + 84) := by
  subst he
  unfold d_Ke_stepAt
  have z0 : (0 : Int32).toNatClampNeg = 0 := by decide
  refine pf_b (pf_c (fun _ => pf_some ?_)) (pf_b (pf_c (fun _ => pf_some ?_)) (pf_c (fun c => pf_some ?_)))
  · show l0 + 4 ≤ l0 + 4 + (0 : Int32).toNatClampNeg ∧ l0 + 4 + (0 : Int32).toNatClampNeg < l0 + 84
    omega
  · show l0 + 4 ≤ l0 + 4 + (0 : Int32).toNatClampNeg ∧ l0 + 4 + (0 : Int32).toNatClampNeg < l0 + 84
    omega
  · have := pm_in_lt c
    show l0 + 4 ≤ l0 + 4 + l1.toNatClampNeg ∧ l0 + 4 + l1.toNatClampNeg < l0 + 84
    omega
theorem f_take (h : TG a v u) : Pf (d_Re_take l1 u) (fun r => TG a v r.2) := by
  unfold d_Re_take
  exact pf_b (pf_some h) (pf_b (pf_some h) (pf_b (pf_b (pf_some (TG_1 h (by decide))) (pf_some h)) pf_none))
theorem f_set (hr : a + 4 ≤ r0 ∧ r0 < a + 84) (h : TG a v u) : Pf (d_St_set r0 l1 l2 l3 u) (TG a v) := by
  unfold d_St_set
  exact pf_some (TG_s (TG_s (TG_s (TG_s h hr) hr) hr) hr)
theorem f_addStep (ha : ker a) (he : l0 = a) (h : TG a v u) : Pf (d_Ke_addStep l0 l1 l2 l3 u) (fun r => (a + 4 ≤ r.1 ∧ r.1 < a + 84) ∧ TG a v r.2) := by
  subst he
  unfold d_Ke_addStep
  refine pf_c (fun c => ?_)
  have := pm_in_lt c
  have hr : l0 + 4 ≤ l0 + 4 + (d_Mat_min (u l0 3) (79 : Int32)).toNatClampNeg ∧ l0 + 4 + (d_Mat_min (u l0 3) (79 : Int32)).toNatClampNeg < l0 + 84 := by omega
  refine pf_bind (f_set (v := v) hr (TG_k (i := 0) h ha (by omega))) (fun q3 h3 => ?_)
  exact pf_c (fun _ => pf_some ⟨hr, h3⟩)
theorem f_addItem (ha : ker a) (he : l0 = a) (h : TG a v u) : Pf (d_Ke_addItem l0 l1 l2 u) (TG a v) := by
  subst he
  unfold d_Ke_addItem
  exact pf_b (pf_some h) (pf_b (pf_b (pf_some (TG_k (i := 0) (TG_k (i := 3) (TG_k (i := 2) h ha (by omega)) ha (by omega)) ha (by omega))) pf_none) pf_none)
theorem f_closeBlock (ha : ker a) (h : TG a v u) : Pf (d_Re_closeBlock u) (TG a v) := by
  unfold d_Re_closeBlock
  repeat' first
    | with_reducible refine pf_b ?_ ?_
    | with_reducible exact pf_none
    | with_reducible assumption
    | with_reducible refine pf_bind (f_stepAt (a := a) ?_) (fun _ _ => ?_)
    | with_reducible refine pf_bind (f_addStep (a := a) (v := v) ha ?_ ?_) (fun _ ⟨_, _⟩ => ?_)
    | with_reducible refine pf_bind (f_take (a := a) (v := v) ?_) (fun _ _ => ?_)
    | with_reducible refine pf_some ?_
    | with_reducible refine TG_1 ?_ ?_
    | with_reducible refine TG_87 ?_
    | with_reducible refine TG_s ?_ ?_
    | with_reducible refine TG_e (v := v) ?_
    | decide
theorem f_takeVariable (h : TG a v u) : Pf (d_Re_takeVariable u) (fun r => TG a v r.2) := by
  unfold d_Re_takeVariable
  repeat' first
    | with_reducible refine pf_b ?_ ?_
    | with_reducible exact pf_none
    | with_reducible assumption
    | with_reducible refine pf_bind f_next (fun _ _ => ?_)
    | with_reducible refine pf_some ?_
    | with_reducible refine TG_1 ?_ ?_
    | with_reducible refine TG_87 ?_
    | with_reducible refine TG_s ?_ ?_
    | with_reducible refine TG_e (v := v) ?_
    | decide
theorem f_readHead (hr : a + 4 ≤ r0 ∧ r0 < a + 84) (h : TG a v u) : Pf (d_Re_readHead r0 u) (fun r => TG a v r.2) := by
  unfold d_Re_readHead
  repeat' first
    | with_reducible refine pf_b ?_ ?_
    | with_reducible exact pf_none
    | with_reducible assumption
    | with_reducible refine pf_bind f_next (fun _ _ => ?_)
    | with_reducible refine pf_bind (f_takeVariable (a := a) (v := v) ?_) (fun _ _ => ?_)
    | with_reducible refine pf_bind (f_take (a := a) (v := v) ?_) (fun _ _ => ?_)
    | with_reducible refine pf_some ?_
    | with_reducible refine TG_1 ?_ ?_
    | with_reducible refine TG_87 ?_
    | with_reducible refine TG_s ?_ ?_
    | with_reducible refine TG_e (v := v) ?_
    | decide
theorem f_readNumber_4 : ∀ (f : Nat) (l1 l2 : Int32) (u : pd_V), TG a v u → Pf (d_Re_readNumber_4 w f l1 l2 u) (fun r => TG a v r.2) := by
  intro f
  induction f with
  | zero => intro l1 l2 u h; rw [d_Re_readNumber_4]; exact pf_none
  | succ f ih =>
    intro l1 l2 u h
    rw [d_Re_readNumber_4]
    exact pf_b (pf_some h) (pf_bind f_next (fun _ _ => pf_b (pf_some h) (pf_bind f_next (fun _ _ => ih _ _ _ (TG_1 h (by decide))))))
theorem f_readNumber (h : TG a v u) : Pf (d_Re_readNumber w u) (fun r => TG a v r.2) := by
  unfold d_Re_readNumber
  exact f_readNumber_4 w 0 0 u h
variable {E : Int32 → pd_V → Option (Int32 × pd_V)}
theorem f_readBracket (hE : ∀ l t, TG a v t → Pf (E l t) (fun r => TG a v r.2)) (h : TG a v u) : Pf (d_Re_readBracket E l1 l2 l3 u) (fun r => TG a v r.2) := by
  unfold d_Re_readBracket
  repeat' first
    | with_reducible refine pf_b ?_ ?_
    | with_reducible exact pf_none
    | with_reducible assumption
    | with_reducible refine pf_bind (f_take (a := a) (v := v) ?_) (fun _ _ => ?_)
    | with_reducible refine pf_bind (hE _ _ ?_) (fun _ _ => ?_)
    | with_reducible refine pf_some ?_
    | with_reducible refine TG_1 ?_ ?_
    | with_reducible refine TG_87 ?_
    | with_reducible refine TG_s ?_ ?_
    | with_reducible refine TG_e (v := v) ?_
    | decide
set_option maxHeartbeats 2000000 in
theorem f_readTerm (ha : ker a) (hE : ∀ l t, TG a v t → Pf (E l t) (fun r => TG a v r.2)) (h : TG a v u) : Pf (d_Re_readTerm w E l1 u) (fun r => TG a v r.2) := by
  unfold d_Re_readTerm
  repeat' first
    | with_reducible refine pf_b ?_ ?_
    | with_reducible exact pf_none
    | with_reducible assumption
    | with_reducible refine pf_bind f_next (fun _ _ => ?_)
    | with_reducible refine pf_bind (f_addItem (a := a) (v := v) ha ?_ ?_) (fun _ _ => ?_)
    | with_reducible refine pf_bind (f_readBracket (a := a) (v := v) hE ?_) (fun _ _ => ?_)
    | with_reducible refine pf_bind (f_readNumber (a := a) (v := v) ?_) (fun _ _ => ?_)
    | with_reducible refine pf_some ?_
    | with_reducible refine TG_1 ?_ ?_
    | with_reducible refine TG_87 ?_
    | with_reducible refine TG_s ?_ ?_
    | with_reducible refine TG_e (v := v) ?_
    | decide
theorem f_readExpression_12 (ha : ker a) (hE : ∀ l t, TG a v t → Pf (E l t) (fun r => TG a v r.2)) : ∀ (f : Nat) (l1 l2 : Int32) (u : pd_V), TG a v u → Pf (d_Re_readExpression_12 w E f l1 l2 u) (fun r => TG a v r.2) := by
  intro f
  induction f with
  | zero => intro l1 l2 u h; rw [d_Re_readExpression_12]; exact pf_none
  | succ f ih =>
    intro l1 l2 u h
    rw [d_Re_readExpression_12]
    refine pf_b (pf_some h) (pf_bind f_next (fun _ _ => pf_b ?_ (pf_some h)))
    refine pf_bind (f_readTerm ha hE (TG_1 h (by decide))) (fun q5 h5 => ?_)
    refine pf_b ?_ (pf_some h5)
    exact pf_bind (f_addItem ha (TG_e h5) h5) (fun q7 h7 => ih _ _ _ h7)
theorem f_readExpression (ha : ker a) (hE : ∀ l t, TG a v t → Pf (E l t) (fun r => TG a v r.2)) (h : TG a v u) : Pf (d_Re_readExpression w E l1 u) (fun r => TG a v r.2) := by
  unfold d_Re_readExpression
  refine pf_bind (f_readTerm ha hE h) (fun q5 h5 => ?_)
  exact pf_b (f_readExpression_12 ha hE w _ _ _ h5) (pf_some h5)
theorem f_RE (ha : ker a) : ∀ (n : Nat) (l : Int32) (t : pd_V), TG a v t → Pf (d_RE w n l t) (fun r => TG a v r.2) := by
  intro n
  induction n with
  | zero => intro l t _; exact pf_none
  | succ n ih => intro l t h; exact f_readExpression ha ih h
theorem f_RE5 (ha : ker a) (h : TG a v u) : Pf (d_RE5 w l1 u) (fun r => TG a v r.2) := f_RE ha 5 l1 u h
theorem f_readStoring (ha : ker a) (hr : a + 4 ≤ r0 ∧ r0 < a + 84) (h : TG a v u) : Pf (d_Re_readStoring w r0 u) (fun r => TG a v r.2) := by
  unfold d_Re_readStoring
  repeat' first
    | with_reducible refine pf_b ?_ ?_
    | with_reducible exact pf_none
    | with_reducible assumption
    | with_reducible refine pf_bind (f_take (a := a) (v := v) ?_) (fun _ _ => ?_)
    | with_reducible refine pf_bind (f_RE5 (a := a) (v := v) ha ?_) (fun _ _ => ?_)
    | with_reducible refine pf_some ?_
    | with_reducible refine TG_1 ?_ ?_
    | with_reducible refine TG_87 ?_
    | with_reducible refine TG_s ?_ ?_
    | with_reducible refine TG_e (v := v) ?_
    | decide
theorem f_readWhole (ha : ker a) (hr : a + 4 ≤ r0 ∧ r0 < a + 84) (h : TG a v u) : Pf (d_Re_readWhole w r0 u) (fun r => TG a v r.2) := by
  unfold d_Re_readWhole
  repeat' first
    | with_reducible refine pf_b ?_ ?_
    | with_reducible exact pf_none
    | with_reducible assumption
    | with_reducible refine pf_bind (f_RE5 (a := a) (v := v) ha ?_) (fun _ _ => ?_)
    | with_reducible refine pf_some ?_
    | with_reducible refine TG_1 ?_ ?_
    | with_reducible refine TG_87 ?_
    | with_reducible refine TG_s ?_ ?_
    | with_reducible refine TG_e (v := v) ?_
    | decide
theorem f_openBlock (h : TG a v u) : Pf (d_Re_openBlock l1 u) (fun r => TG a v r.2) := by
  unfold d_Re_openBlock
  repeat' first
    | with_reducible refine pf_b ?_ ?_
    | with_reducible exact pf_none
    | with_reducible assumption
    | with_reducible refine pf_bind (f_take (a := a) (v := v) ?_) (fun _ _ => ?_)
    | with_reducible refine pf_some ?_
    | with_reducible refine TG_1 ?_ ?_
    | with_reducible refine TG_87 ?_
    | with_reducible refine TG_s ?_ ?_
    | with_reducible refine TG_e (v := v) ?_
    | decide
theorem f_readStatement (ha : ker a) (h : TG a v u) : Pf (d_Re_readStatement w u) (fun r => TG a v r.2) := by
  unfold d_Re_readStatement
  repeat' first
    | with_reducible refine pf_b ?_ ?_
    | with_reducible exact pf_none
    | with_reducible assumption
    | with_reducible refine pf_bind f_next (fun _ _ => ?_)
    | with_reducible refine pf_bind (f_addStep (a := a) (v := v) ha ?_ ?_) (fun _ ⟨_, _⟩ => ?_)
    | with_reducible refine pf_bind (f_readHead (a := a) (v := v) ?_ ?_) (fun _ _ => ?_)
    | with_reducible refine pf_bind (f_readStoring (a := a) (v := v) ha ?_ ?_) (fun _ _ => ?_)
    | with_reducible refine pf_bind (f_readWhole (a := a) (v := v) ha ?_ ?_) (fun _ _ => ?_)
    | with_reducible refine pf_bind (f_openBlock (a := a) (v := v) ?_) (fun _ _ => ?_)
    | with_reducible refine pf_bind (f_take (a := a) (v := v) ?_) (fun _ _ => ?_)
    | with_reducible refine pf_some ?_
    | with_reducible refine TG_1 ?_ ?_
    | with_reducible refine TG_87 ?_
    | with_reducible refine TG_s ?_ ?_
    | with_reducible refine TG_e (v := v) ?_
    | decide
theorem f_read_19 (ha : ker a) : ∀ (f : Nat) (l1 : Int32) (u : pd_V), TG a v u → Pf (d_Re_read_19 w f l1 u) (fun r => TG a v r.2) := by
  intro f
  induction f with
  | zero => intro l1 u h; rw [d_Re_read_19]; exact pf_none
  | succ f ih =>
    intro l1 u h
    rw [d_Re_read_19]
    have st : Pf ((d_Re_readStatement w u).bind fun q4 => bif !(decide (q4.1 = 0)) then d_Re_read_19 w f (l1 + (1 : Int32)) q4.2 else some ((0 : Int32), q4.2)) (fun r => TG a v r.2) :=
      pf_bind (f_readStatement ha h) (fun q4 h4 => pf_b (ih _ _ h4) (pf_some h4))
    exact pf_b (pf_some h) (pf_b (pf_b st (pf_bind f_next (fun _ _ => pf_b st (pf_bind (f_closeBlock ha h) (fun q h1 => ih _ _ h1))))) (pf_b (pf_some h) (pf_some h)))
theorem f_read (ha : ker a) (h : TG a v u) : Pf (d_Re_read w u) (fun r => TG a v r.2) := by
  unfold d_Re_read
  refine pf_bind (f_empty (v := v) ha (TG_e h) (TG_1 (TG_1 h (by decide)) (by decide))) (fun q1 h1 => ?_)
  exact f_read_19 ha w _ _ h1
end ZFR
