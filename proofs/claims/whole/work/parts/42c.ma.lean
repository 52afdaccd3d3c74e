/-! masks, and the lanes one after the other -/
def MK8 (f : Nat → Bool) (M : Int32) : Prop := ∀ j, zbt M j = (decide (j < 8) && f j)
def znone (f : Nat → Bool) : Bool := !(f 0 || f 1 || f 2 || f 3 || f 4 || f 5 || f 6 || f 7)
def zdc (s : Nat → Int32) (n : Nat) (inp : Nat → Int32) (l p p1 : Nat) (D : xLD) : Int32 × xLD := (xw s n (zev inp l D) p1).elim ((0 : Int32), ztr p D) (fun x => (x, D))
def CRS (c : Nat) (inp : Nat → Int32) (DD : Nat → xLD) (v : pd_V) : Prop := CIN c inp v ∧ ∀ l, l < 8 → CRL c l (DD l) v
/-- the lanes before l are done -/
def zup (f : Nat → Bool) (g : Nat → xLD → xLD) (DD : Nat → xLD) (l : Nat) : Nat → xLD := fun x => bif Nat.blt x l && f x then g x (DD x) else DD x
def zgo (f : Nat → Bool) (DD : Nat → xLD) : Nat → Bool := fun x => f x && !((DD x).2.2.2.2.2)
section ZMA
variable {s : Nat → Int32} {n m w a b c l p q i i1 nb j e0 p1 : Nat} {v u t : pd_V} {x y M S : Int32} {inp : Nat → Int32} {D D' : xLD} {DD : Nat → xLD} {f h : Nat → Bool} {g : Nat → xLD → xLD}
theorem zbt_and {X Y : Int32} : zbt (X &&& Y) j = (zbt X j && zbt Y j) := by
  unfold zbt
  rw [Int32.toBitVec_and, BitVec.getLsbD_and]
theorem zbt_or {X Y : Int32} : zbt (X ||| Y) j = (zbt X j || zbt Y j) := by
  unfold zbt
  rw [Int32.toBitVec_or, BitVec.getLsbD_or]
theorem zbt_not {X : Int32} : zbt (X ^^^ (-1 : Int32)) j = (decide (j < 32) && !(zbt X j)) := by
  unfold zbt
  rw [Int32.toBitVec_xor, BitVec.getLsbD_xor, show (-1 : Int32).toBitVec = BitVec.allOnes 32 by decide, BitVec.getLsbD_allOnes]
  by_cases c : j < 32
  · rw [decide_eq_true c]
    cases X.toBitVec.getLsbD j <;> rfl
  · rw [decide_eq_false c, BitVec.getLsbD_of_ge _ _ (by omega)]
    rfl
theorem i32_x {X Y : Int32} (h : ∀ j, zbt X j = zbt Y j) : X = Y := by
  refine Int32.toBitVec_inj.mp (BitVec.eq_of_getLsbD_eq (fun j _ => h j))
theorem MK8_u {X Y : Int32} (h1 : MK8 f X) (h2 : MK8 f Y) : X = Y := i32_x (fun j => (h1 j).trans (h2 j).symm)
theorem MK8_e (h1 : MK8 f M) (e : ∀ j, j < 8 → h j = f j) : MK8 h M := fun j => by
  rw [h1 j]
  by_cases c : j < 8
  · rw [decide_eq_true c, e j c]
  · rw [decide_eq_false c]
    rfl
theorem MK8_0 : MK8 (fun _ => false) 0 := fun j => by
  rw [zbt_z, Bool.and_false]
theorem znone_f (hz : znone f = true) : ∀ j, j < 8 → f j = false := by
  unfold znone at hz
  have h1 : (f 0 || f 1 || f 2 || f 3 || f 4 || f 5 || f 6 || f 7) = false := by
    cases z : (f 0 || f 1 || f 2 || f 3 || f 4 || f 5 || f 6 || f 7) with
    | false => rfl
    | true => rw [z] at hz; exact absurd hz (by decide)
  obtain ⟨h1, q7⟩ := or_f h1
  obtain ⟨h1, q6⟩ := or_f h1
  obtain ⟨h1, q5⟩ := or_f h1
  obtain ⟨h1, q4⟩ := or_f h1
  obtain ⟨h1, q3⟩ := or_f h1
  obtain ⟨h1, q2⟩ := or_f h1
  obtain ⟨q0, q1⟩ := or_f h1
  intro j hj
  rcases (show j = 0 ∨ j = 1 ∨ j = 2 ∨ j = 3 ∨ j = 4 ∨ j = 5 ∨ j = 6 ∨ j = 7 by omega) with z | z | z | z | z | z | z | z <;> (rw [z]; assumption)
theorem znone_t (hz : ∀ j, j < 8 → f j = false) : znone f = true := by
  unfold znone
  rw [hz 0 (by omega), hz 1 (by omega), hz 2 (by omega), hz 3 (by omega), hz 4 (by omega), hz 5 (by omega), hz 6 (by omega), hz 7 (by omega)]
  rfl
theorem znone_e (e : ∀ j, j < 8 → h j = f j) : znone h = znone f := by
  unfold znone
  rw [e 0 (by omega), e 1 (by omega), e 2 (by omega), e 3 (by omega), e 4 (by omega), e 5 (by omega), e 6 (by omega), e 7 (by omega)]
theorem MK8_z (hM : MK8 f M) : decide (M = 0) = znone f := by
  cases z : znone f with
  | true =>
    have h1 := znone_f z
    refine decide_eq_true (MK8_u (MK8_e hM (fun j hj => (h1 j hj).symm ▸ rfl : ∀ j, j < 8 → (fun _ => false) j = f j)) MK8_0)
  | false =>
    refine decide_eq_false (fun e => ?_)
    have h1 : znone f = true := znone_t (fun j hj => by
      have := hM j
      rw [e, zbt_z, decide_eq_true hj, Bool.true_and] at this
      exact this.symm)
    rw [z] at h1
    exact absurd h1 (by decide)
theorem MK8_i (hM : MK8 f M) (hl : l < 8) : decide (d_De_isIn M (Int32.ofNat l) = 0) = !(f l) := by
  rw [isIn_b hl, bi_0, hM l, decide_eq_true hl, Bool.true_and]
theorem MK8_s (hM : MK8 f M) (hl : l < 8) : MK8 (fun x => f x || Nat.beq x l) (M ||| ((1 : Int32) <<< (Int32.ofNat l &&& 31))) := fun j => by
  by_cases c : j < 8
  · rw [zbt_l hl c, hM j, decide_eq_true c, Bool.true_and, Bool.true_and]
    by_cases e : j = l
    · rw [e, decide_eq_true rfl]
      show _ = (f l || Nat.beq l l)
      rw [Nat.beq_refl]
    · rw [decide_eq_false (fun z => e z.symm)]
      show _ = (f j || Nat.beq j l)
      rw [beq_f e]
  · rw [zbt_or, hM j, decide_eq_false c]
    have hz : (List.range 8).all (fun i => decide (((1 : Int32) <<< (Int32.ofNat i &&& 31)).toBitVec = BitVec.twoPow 32 i)) = true := by decide +kernel
    have h2 := of_decide_eq_true (List.all_eq_true.mp hz l (List.mem_range.mpr hl))
    unfold zbt
    rw [h2, BitVec.getLsbD_twoPow, decide_eq_false (show ¬ l = j by omega), Bool.and_false]
    rfl
/-- those that go on -/
theorem MK8_g (hM : MK8 f M) (hc : ∀ l, l < 8 → zbt S l = (DD l).2.2.2.2.2) : MK8 (zgo f DD) (M &&& (S ^^^ (-1 : Int32))) := fun j => by
  rw [zbt_and, zbt_not, hM j]
  by_cases c : j < 8
  · rw [decide_eq_true c, decide_eq_true (show j < 32 by omega), hc j c]
    rfl
  · rw [decide_eq_false c]
    rfl
theorem zup_0 : zup f g DD 0 = DD := by
  funext x
  unfold zup
  rw [show Nat.blt x 0 = false from by
    cases z : Nat.blt x 0
    · rfl
    · rw [Nat.blt_eq] at z; omega]
  rfl
theorem blt_t {x l : Nat} (h : x < l) : Nat.blt x l = true := by rw [Nat.blt_eq]; exact h
theorem blt_f {x l : Nat} (h : ¬ x < l) : Nat.blt x l = false := by
  cases z : Nat.blt x l
  · rfl
  · rw [Nat.blt_eq] at z; exact absurd z h
theorem CRS_F (h : CRS c inp DD v) (hf : RKF c v u) : CRS c inp DD u := ⟨CIN_F h.1 hf, fun l hl => CRL_F (h.2 l hl) hf⟩
/-- one lane more -/
theorem CRS_1 (hl : l < 8) (h : CRS c inp (zup f g DD l) v) (hfl : f l = true) (hA : ACR c l (g l (DD l)) v u) : CRS c inp (zup f g DD (l + 1)) u := by
  refine ⟨fun j hj => by rw [hA.2.2 (c + 1) (Or.inl rfl)]; exact h.1 j hj, fun x hx => ?_⟩
  by_cases e : x = l
  · subst e
    have : zup f g DD (x + 1) x = g x (DD x) := by
      unfold zup
      rw [blt_t (by omega), hfl]
      rfl
    rw [this]
    exact hA.1
  · have : zup f g DD (l + 1) x = zup f g DD l x := by
      unfold zup
      by_cases z : x < l
      · rw [blt_t z, blt_t (by omega)]
      · rw [blt_f z, blt_f (by omega)]
    rw [this]
    exact hA.2.1 x _ hx e (h.2 x hx)
theorem CRS_0 (h : CRS c inp (zup f g DD l) v) (hfl : f l = false) : CRS c inp (zup f g DD (l + 1)) v := by
  refine ⟨h.1, fun x hx => ?_⟩
  have : zup f g DD (l + 1) x = zup f g DD l x := by
    unfold zup
    by_cases e : x = l
    · subst e
      rw [hfl, Bool.and_false, Bool.and_false]
    · by_cases z : x < l
      · rw [blt_t z, blt_t (by omega)]
      · rw [blt_f z, blt_f (by omega)]
  rw [this]
  exact h.2 x hx
theorem zup_l : zup f g DD l l = DD l := by
  unfold zup
  rw [blt_f (Nat.lt_irrefl l)]
  rfl
/-- what E is for a lane of the class's crew -/
theorem zcd_t (hn : n ≤ 160) (hl : l < 8) (ha : ker a) (hc : crw c) (hb : b = a + 4 + j ∧ j < 80) (hi1 : i1 ≤ 160) (hb1 : v b 1 = Int32.ofNat p) (hW : ZW s n a b p1 e0 i1 v) (hen : e0 ≤ n) (hes : xsgn (s e0) = false) (hin : CIN c inp v) (hD : CRL c l D v) : Pf (d_Cr_decide w c a b (Int32.ofNat l) v) (fun r => r.1 = (zdc s n inp l p p1 D).1 ∧ ACR c l (zdc s n inp l p p1 D).2 v r.2) := by
  have pa : a = 3 ∨ a = 88 := ha
  have pc : c = 174 ∨ c = 187 := hc
  have bc : b ≠ c := by omega
  have bc7 : b ≠ c + 7 := by omega
  have F0 : RKF c v (pd_w v c 9 (0 : Int32)) := RKF_9 RKF_r
  have CE0 : CE (zev inp l D) c l (pd_w v c 9 (0 : Int32)) := CE_F (CE_C hin hD) F0
  have kk : ∀ u f, RKF c v u → u b f = v b f := fun u f h => by rw [h.1 b bc bc7]
  obtain ⟨i, it, w7, w8, w9, -, wl, wi⟩ := hW
  obtain ⟨wi1, -, ev, wx⟩ := wi
  have hev := EX_x (e := zev inp l D) wx hen hes
  unfold d_Cr_decide
  rw [kk _ 7 F0, kk _ 8 F0, w7, w8]
  have wi2 : ∀ t y, it[t]? = some y → pd_w v c 9 (0 : Int32) (a + 2) (i + t) = y.1 ∧ pd_w v c 9 (0 : Int32) (a + 3) (i + t) = y.2 := fun t y hy => by
    rw [pd_w_ne (by omega), pd_w_ne (by omega)]
    exact wi1 t y hy
  refine pf_bind (zck_t hl ha hc wi2 (by omega) wx pd_w_self CE0) (fun q2 h2' => ?_)
  obtain ⟨F2, hcase⟩ := h2'
  have F2' := RKF_t F0 F2
  unfold zdc
  rcases hcase with ⟨x, x1, x2, x3⟩ | ⟨x1, x3⟩
  · rw [← hev, x1]
    refine pf_d (fun _ => pf_some ⟨x2, CRL_F hD F2', OTH_F F2', fun d hd => F2'.1 d (by omega) (by omega)⟩) (fun z => absurd x3 z)
  · rw [← hev, x1]
    refine pf_d (fun z => absurd (x3.symm.trans z) (by decide)) (fun _ => ?_)
    refine pf_bind (CR_tr hl bc (by rw [kk _ 1 F2']; exact hb1) (CRL_F hD F2')) (fun q3 hq => pf_some ⟨rfl, hq.1, OTH_t (OTH_F F2') hq.2.1, fun d hd => (hq.2.2 d hd).trans (F2'.1 d (by omega) (by omega))⟩)
end ZMA
