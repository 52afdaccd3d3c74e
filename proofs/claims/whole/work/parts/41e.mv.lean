/-! a lane's value in the reference -/
def MF (v q : pd_V) : Prop := (∀ a, a ≠ 198 → ¬ (219 ≤ a ∧ a ≤ 221) → q a = v a) ∧ (∀ k, k ≠ 6 → k ≠ 19 → q 198 k = v 198 k)
section ZMV
variable {s : Nat → Int32} {n m w l p q : Nat} {v u t : pd_V} {x y sum sg l1 l3 : Int32} {e : xEv}
theorem MF_r : MF v v := ⟨fun _ _ _ => rfl, fun _ _ _ => rfl⟩
theorem MF_k {k : Nat} (h : MF v u) (hk : k = 6 ∨ k = 19) : MF v (pd_w u 198 k x) := ⟨fun b b1 b2 => by rw [pd_wa b1]; exact h.1 b b1 b2, fun j b1 b2 => by rw [pd_w_nk (by omega)]; exact h.2 j b1 b2⟩
theorem MF_w {a k : Nat} (h : MF v u) (ha : 219 ≤ a ∧ a ≤ 221) : MF v (pd_w u a k x) := ⟨fun b b1 b2 => by rw [pd_wa (by omega)]; exact h.1 b b1 b2, fun j b1 b2 => by rw [pd_w_ne (by omega)]; exact h.2 j b1 b2⟩
theorem mf_plain_23 : ∀ (F : Nat) (x : Int32) (u : pd_V), MF v u → Pf (d_Mo_plain_23 w F x u) (fun r => MF v r.2) := by
  intro F
  induction F with
  | zero => intro x u h; rw [d_Mo_plain_23]; exact pf_none
  | succ F ih =>
    intro x u h
    rw [d_Mo_plain_23]
    exact pf_c (fun _ => pf_b (pf_some h) (pf_c (fun _ => ih _ _ (MF_k h (Or.inl rfl)))))
theorem mf_plain (h : MF v u) : Pf (d_Mo_plain w l1 u) (fun r => MF v r.2) := by
  unfold d_Mo_plain
  exact pf_c (fun _ => pf_b (pf_b (pf_c (fun _ => pf_some (MF_k h (Or.inl rfl)))) (pf_c (fun _ => pf_some (MF_k h (Or.inl rfl))))) (mf_plain_23 w _ _ h))
theorem mf_137 {K : Int32 → Int32 → pd_V → Option (Int32 × pd_V)} (hK : ∀ a b t, MF v t → Pf (K a b t) (fun r => MF v r.2)) : ∀ (F : Nat) (l1 l3 : Int32) (u : pd_V), MF v u → Pf (d_Mo_reckon_137 K w F l1 l3 u) (fun r => MF v r.2) := by
  intro F
  induction F with
  | zero => intro l1 l3 u h; rw [d_Mo_reckon_137]; exact pf_none
  | succ F ih =>
    intro l1 l3 u h
    rw [d_Mo_reckon_137]
    repeat' first
      | with_reducible refine pf_b ?_ ?_
      | with_reducible exact pf_none
      | with_reducible assumption
      | with_reducible refine hK _ _ _ ?_
      | with_reducible refine ih _ _ _ ?_
      | with_reducible refine pf_some ?_
      | with_reducible refine MF_k ?_ ?_
      | with_reducible refine MF_w ?_ ?_
      | decide
theorem mf_22 : ∀ (F : Nat) (l1 l3 : Int32) (u : pd_V), MF v u → Pf (d_Mo_reckon_22 w F l1 l3 u) (fun r => MF v r.2) := by
  intro F
  induction F with
  | zero => intro l1 l3 u h; rw [d_Mo_reckon_22]; exact pf_none
  | succ F ih =>
    have h3 : ∀ u : pd_V, MF v u → Pf (d_Mo_reckon_339 w u) (fun r => MF v r.2) := fun u h => by
      unfold d_Mo_reckon_339
      exact pf_c (fun _ => pf_some h)
    have hk : ∀ a b t, MF v t → Pf (rkK w F a b t) (fun r => MF v r.2) := by
      intro a b t h
      unfold rkK
      exact pf_b (h3 _ h) (pf_c (fun _ => pf_b (pf_c (fun _ => pf_c (fun _ => ih _ _ _ (MF_k (MF_w h (by omega)) (Or.inl rfl))))) (h3 _ h)))
    intro l1 l3 u h
    rw [d_Mo_reckon_22]
    have pl : Pf ((d_Mo_plain w l1 u).bind fun q21 => bif pm_in l3 6 then d_Mo_reckon_137 (rkK w F) w w l1 l3 (pd_w q21.2 220 l3.toNatClampNeg (d_Mo_joined (u 220 l3.toNatClampNeg) (u 221 l3.toNatClampNeg) q21.1)) else none) (fun r => MF v r.2) :=
      pf_bind (mf_plain h) (fun q h1 => pf_c (fun _ => mf_137 hk w _ _ _ (MF_w h1 (by omega))))
    repeat' first
      | with_reducible refine pf_b ?_ ?_
      | with_reducible exact pf_none
      | with_reducible assumption
      | exact pl
      | with_reducible refine ih _ _ _ ?_
      | with_reducible refine pf_some ?_
      | with_reducible refine MF_k ?_ ?_
      | with_reducible refine MF_w ?_ ?_
      | decide
theorem mf_reckon (h : MF v u) : Pf (d_Mo_reckon w l1 l3 u) (fun r => MF v r.2) := by
  unfold d_Mo_reckon
  exact pf_c (fun _ => pf_c (fun _ => mf_22 w _ _ _ (MF_w (MF_w (MF_k h (Or.inl rfl)) (by omega)) (by omega))))
/-- the worth of the expression that begins at p -/
def xw (s : Nat → Int32) (n : Nat) (e : xEv) (p : Nat) : Option Int32 := xv s n e p [] 0 43 true
theorem EX_x {it : List (Int32 × Int32)} {ev : xEv → Option Int32} {D : Nat} (h : EX s n D p q it ev) (hq : q ≤ n) (hs : xsgn (s q) = false) : ev e = xw s n e p := by
  unfold xw
  rw [h.2.1 e []]
  cases ev e with
  | none => rfl
  | some x => exact (xv_ni hq hs).symm
theorem vlq_t (hw : 4294967296 < w) (hn : n ≤ 160) (h0 : ∀ j, n ≤ j → s j = 0) (hm : m ≤ 4) (hl : l < 16) (hp : p ≤ n) (hq : q < n) (hd : xdig (s q) = false) (hT : TX n s v) (hEE : EE e l v) (h : xp s m 200 p [] true = (true, q)) : Sf (d_Mo_valueOf w (Int32.ofNat l) (Int32.ofNat p) x v) (VQ l q x (xw s n e p) v) := by
  have h2 : xp s m (n + 2 - p) p [] true = (true, q) := by
    rw [← h]
    exact xp_fu h0 (n + 2 - p) 200 p [] true (by omega) (by omega) hp
  unfold d_Mo_valueOf
  have ex : ME v (pd_w v 198 19 (0 : Int32)) := ME_k ME_r (by omega)
  have T1 := TX_E hT ex
  refine sf_bind (sf_pf (sf_pf (rk_t hw hn hm hl hq hd (by omega) T1 h2) (rkv_t hw hn hm hl hq hd T1 pd_w_self (EE_E hEE ex) h2)) (mf_reckon (v := pd_w v 198 19 (0 : Int32)) MF_r)) (fun r hr => ?_)
  obtain ⟨⟨⟨-, r2⟩, r3⟩, r4⟩ := hr
  have il : pm_in (Int32.ofNat l) 16 = true := in_nat hl (by omega)
  have far : ∀ d, d ≠ 198 → ¬ (219 ≤ d ∧ d ≤ 221) → r.2 d = v d := fun d a b => by rw [r4.1 d a b, pd_wa a]
  have mm : ∀ k, k ≠ 6 → k ≠ 19 → r.2 198 k = v 198 k := fun k a b => by rw [r4.2 k a b, pd_w_nk b]
  rcases r3 with ⟨y, y1, y2, y3⟩ | ⟨y1, y3⟩
  · refine sf_d (fun _ => sf_some ⟨fun d a _ _ c => far d a c, mm, Or.inl ⟨y, y1, y2, r2 y3, far 208 (by decide) (by decide), far 209 (by decide) (by decide)⟩⟩) (fun c => absurd y3 c)
  · refine sf_d (fun c => absurd (y3.symm.trans c) (by decide)) (fun _ => sf_c il (sf_c il (sf_some ⟨fun d a b c f => ?_, fun k a b => ?_, Or.inr ⟨y1, fun j hj => ⟨?_, ?_⟩, ?_, ?_⟩⟩)))
    · show pd_w (pd_w r.2 208 _ _) 209 _ _ d = v d
      rw [pd_wa c, pd_wa b]
      exact far d a f
    · show pd_w (pd_w r.2 208 (Int32.ofNat l).toNatClampNeg (x + 1)) 209 (Int32.ofNat l).toNatClampNeg (1 : Int32) 198 k = v 198 k
      rw [pd_w_ne (by decide), pd_w_ne (by decide)]
      exact mm k a b
    · show pd_w (pd_w r.2 208 (Int32.ofNat l).toNatClampNeg (x + 1)) 209 (Int32.ofNat l).toNatClampNeg (1 : Int32) 208 j = v 208 j
      rw [cl_nat (by omega), pd_w_ne (by decide), pd_w_nk hj, far 208 (by decide) (by decide)]
    · show pd_w (pd_w r.2 208 (Int32.ofNat l).toNatClampNeg (x + 1)) 209 (Int32.ofNat l).toNatClampNeg (1 : Int32) 209 j = v 209 j
      rw [cl_nat (by omega), pd_w_nk hj, pd_w_ne (by decide), far 209 (by decide) (by decide)]
    · show pd_w (pd_w r.2 208 (Int32.ofNat l).toNatClampNeg (x + 1)) 209 (Int32.ofNat l).toNatClampNeg (1 : Int32) 208 l = x + 1
      rw [cl_nat (by omega), pd_w_ne (by decide), pd_w_self]
    · show pd_w (pd_w r.2 208 (Int32.ofNat l).toNatClampNeg (x + 1)) 209 (Int32.ofNat l).toNatClampNeg (1 : Int32) 209 l = 1
      rw [cl_nat (by omega), pd_w_self]
end ZMV
