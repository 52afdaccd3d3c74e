/-! where the reference stands -/
def LVM (v : pd_V) (DD : Nat → xLD) (B W : Nat → Nat → Bool) : xK → Prop
  | [] => True
  | (_, m) :: k => (∃ bm, MK8 bm (v 217 k.length) ∧ EQ DD bm (B k.length)) ∧ (m = 1 → ∃ rm, MK8 rm (v 218 k.length) ∧ EQ DD rm (W k.length)) ∧ LVM v DD B W k
def AM (s : Nat → Int32) (n : Nat) (inp : Nat → Int32) (X : xCS) (v : pd_V) : Prop := TX n s v ∧ v 198 35 = Int32.ofNat X.2.1.length ∧ MK v X.2.1 ∧ (∃ fm, MK8 fm (v 198 36) ∧ ∀ x, x < 8 → zgo fm X.2.2.2.2.2 x = X.2.2.1 x) ∧ LVM v X.2.2.2.2.2 X.2.2.2.1 X.2.2.2.2.1 X.2.1 ∧ MRS 0 inp X.2.2.2.2.2 v ∧ VI X
/-- the counters stand -/
def CT (v u : pd_V) : Prop := ∀ k, (22 ≤ k ∧ k ≤ 27) → u 198 k = v 198 k
section ZAM
variable {s : Nat → Int32} {n m w p q j e c o h r N i1 a b l z : Nat} {k k0 : xK} {X Y Z X0 : xCS} {inp : Nat → Int32} {v u t : pd_V} {x y G : Int32} {DD DD' : Nat → xLD} {f g f' ag : Nat → Bool} {B W B' W' : Nat → Nat → Bool} {D : xLD}
theorem CT_r : CT v v := fun _ _ => rfl
theorem CT_t (h1 : CT v u) (h2 : CT u t) : CT v t := fun k hk => (h2 k hk).trans (h1 k hk)
theorem CT_E (h : ME v u) : CT v u := fun k hk => h.2 k (by omega) (by omega)
theorem LVM_e : ∀ (k : xK), LVM v DD B W k → (∀ i, i < k.length → u 217 i = v 217 i ∧ u 218 i = v 218 i ∧ EQ DD' (B i) (B' i) ∧ EQ DD' (W i) (W' i)) → MONO DD DD' → LVM u DD' B' W' k
  | [], _, _, _ => trivial
  | (_, _) :: k, h, e, hm => by
    obtain ⟨⟨bm, b1, b2⟩, h2, h3⟩ := h
    obtain ⟨e1, e2, e3, e4⟩ := e k.length (by show k.length < k.length + 1; omega)
    refine ⟨⟨bm, by rw [e1]; exact b1, fun x hx => (EQ_m b2 hm x hx).trans (e3 x hx)⟩, fun hm1 => ?_, LVM_e k h3 (fun i hi => e i (by show i < k.length + 1; omega)) hm⟩
    obtain ⟨rm, r1, r2⟩ := h2 hm1
    exact ⟨rm, by rw [e2]; exact r1, fun x hx => (EQ_m r2 hm x hx).trans (e4 x hx)⟩
theorem mono_r : MONO DD DD := fun _ _ h => h
theorem zlv_s : zlv B j f j = f := by unfold zlv; rw [Nat.beq_refl]; rfl
theorem zlv_n {i : Nat} (hne : i ≠ j) : zlv B j f i = B i := by unfold zlv; rw [beq_f hne]; rfl
theorem zgo_f (hg : zgo f DD l = true) : f l = true ∧ (DD l).2.2.2.2.2 = false := by
  unfold zgo at hg
  obtain ⟨h1, h2⟩ := and_c hg
  refine ⟨h1, ?_⟩
  cases z : (DD l).2.2.2.2.2
  · rfl
  · rw [z] at h2; exact absurd h2 (by decide)
/-- masks behind a last brace -/
theorem VI_c (hV : VI (p, (h, m) :: k0, f, B, W, DD)) : VI (z, k0, zgo (B k0.length) DD, zlv B k0.length (fun _ => false), W, DD) := by
  obtain ⟨v1, v2, v3, v4, v5⟩ := hV
  have v3 : ∀ i j, i < j → j < k0.length + 1 → ∀ x, x < 8 → B j x = true → B i x = true := v3
  have v4 : ∀ i, k0.length + 1 ≤ i → ∀ x, x < 8 → B i x = false := v4
  have v5 : ∀ i, i < k0.length + 1 → ∀ x, x < 8 → W i x = true → B i x = true := v5
  refine ⟨fun x hx hg => (zgo_f hg).2, fun i hi x hx hg => ?_, fun i j hij hj x hx hb => ?_, fun i hi x hx => ?_, fun i hi x hx hw => ?_⟩
  · have hi : i < k0.length := hi
    show zlv B k0.length (fun _ => false) i x = true
    rw [zlv_n (by omega)]
    exact v3 i k0.length hi (by omega) x hx (zgo_f hg).1
  · have hj : j < k0.length := hj
    have hb : zlv B k0.length (fun _ => false) j x = true := hb
    show zlv B k0.length (fun _ => false) i x = true
    rw [zlv_n (by omega)] at hb ⊢
    exact v3 i j hij (by omega) x hx hb
  · have hi : k0.length ≤ i := hi
    show zlv B k0.length (fun _ => false) i x = false
    by_cases c : i = k0.length
    · rw [c, zlv_s]
    · rw [zlv_n c]
      exact v4 i (by omega) x hx
  · have hi : i < k0.length := hi
    show zlv B k0.length (fun _ => false) i x = true
    rw [zlv_n (by omega)]
    exact v5 i (by omega) x hx hw
theorem VI_e (hV : VI (p, (h, m) :: k0, f, B, W, DD)) : VI (z, (h, 2) :: k0, zgo (W k0.length) DD, B, W, DD) := by
  obtain ⟨v1, v2, v3, v4, v5⟩ := hV
  refine ⟨fun x hx hg => (zgo_f hg).2, fun i hi x hx hg => ?_, v3, v4, v5⟩
  have hi : i < k0.length + 1 := hi
  have h1 : B k0.length x = true := v5 k0.length (by show k0.length < k0.length + 1; omega) x hx (zgo_f hg).1
  show B i x = true
  by_cases c : i = k0.length
  · rw [c]; exact h1
  · exact v3 i k0.length (by omega) (by show k0.length < k0.length + 1; omega) x hx h1
theorem VI_p (hV : VI (p, k, f, B, W, DD)) : VI (z, k, f, B, W, DD) := hV
theorem VI_s (hV : VI (p, k, f, B, W, DD)) (hm : MONO DD DD') : VI (z, k, zgo f DD', B, W, DD') := by
  obtain ⟨v1, v2, v3, v4, v5⟩ := hV
  exact ⟨fun x hx hg => (zgo_f hg).2, fun i hi x hx hg => v2 i hi x hx (zgo_f hg).1, v3, v4, v5⟩
/-- masks behind a head -/
theorem VI_h (hb : ∀ i, i < k.length → ∀ x, x < 8 → f x = true → B i x = true) (hc : ∀ i j, i < j → j ≤ k.length → ∀ x, x < 8 → B j x = true → B i x = true) (hd : ∀ i, k.length < i → ∀ x, x < 8 → B i x = false) (he : ∀ i, i < k.length → ∀ x, x < 8 → W i x = true → B i x = true) (hag : ∀ x, x < 8 → ag x = true → f x = true) : VI (z, (p, m) :: k, zgo ag DD', zlv B k.length (fun x => B k.length x || f x), zlv W k.length (fun x => f x && !(ag x)), DD') := by
  have bl : ∀ i, i ≤ k.length → ∀ x, x < 8 → f x = true → zlv B k.length (fun x => B k.length x || f x) i x = true := by
    intro i hi x hx hf
    by_cases c : i = k.length
    · rw [c, zlv_s]
      show (B k.length x || f x) = true
      rw [hf, Bool.or_true]
    · rw [zlv_n c]
      exact hb i (by omega) x hx hf
  refine ⟨fun x hx hg => (zgo_f hg).2, fun i hi x hx hg => ?_, fun i j hij hj x hx hbj => ?_, fun i hi x hx => ?_, fun i hi x hx hw => ?_⟩
  · have hi : i < k.length + 1 := hi
    exact bl i (by omega) x hx (hag x hx (zgo_f hg).1)
  · have hj : j < k.length + 1 := hj
    have hbj : zlv B k.length (fun x => B k.length x || f x) j x = true := hbj
    show zlv B k.length (fun x => B k.length x || f x) i x = true
    rw [zlv_n (show i ≠ k.length by omega)]
    by_cases c : j = k.length
    · rw [c, zlv_s] at hbj
      rcases or_c hbj with q | q
      · exact hc i k.length (by omega) (Nat.le_refl _) x hx q
      · exact hb i (by omega) x hx q
    · rw [zlv_n c] at hbj
      exact hc i j hij (by omega) x hx hbj
  · have hi : k.length + 1 ≤ i := hi
    show zlv B k.length (fun x => B k.length x || f x) i x = false
    rw [zlv_n (by omega)]
    exact hd i (by omega) x hx
  · have hi : i < k.length + 1 := hi
    have hw : zlv W k.length (fun x => f x && !(ag x)) i x = true := hw
    show zlv B k.length (fun x => B k.length x || f x) i x = true
    by_cases c : i = k.length
    · rw [c, zlv_s] at hw
      exact bl i (by omega) x hx (and_c hw).1
    · rw [zlv_n c] at hw ⊢
      exact he i (by omega) x hx hw
/-- out of a block -/
theorem goO_t (hk : k0.length < 4) (hT : TX n s v) (h35 : v 198 35 = Int32.ofNat (k0.length + 1)) (hM : MK v k0) (hL : LVM v DD B W ((h, m) :: k0)) (hR : MRS 0 inp DD v) (hV : VI (p, (h, m) :: k0, f, B, W, DD)) : ∃ u, d_Mo_goOut (Int32.ofNat z) v = some (Int32.ofNat z, u) ∧ AM s n inp (z, k0, zgo (B k0.length) DD, zlv B k0.length (fun _ => false), W, DD) u ∧ CT v u ∧ (∀ d, (203 ≤ d ∧ d ≤ 209) → u d = v d) := by
  obtain ⟨⟨bm, b1, b2⟩, -, hL2⟩ := hL
  refine ⟨pd_w (pd_w v 198 35 (Int32.ofNat k0.length)) 198 36 (v 217 k0.length), ?_, ?_, fun k hk => by rw [pd_w_nk (by omega), pd_w_nk (by omega)], fun d hd => by rw [pd_wa (by omega), pd_wa (by omega)]⟩
  · unfold d_Mo_goOut
    rw [h35, dec_ofNat, in_nat (show k0.length < 5 by omega) (by omega), cl_nat (by omega)]
    rfl
  · refine ⟨⟨by rw [pd_w_nk (by decide), pd_w_nk (by decide)]; exact hT.1, fun j hj => by rw [pd_w_ne (by decide), pd_w_ne (by decide)]; exact hT.2 j hj⟩, by rw [pd_w_nk (by decide), pd_w_self], MK_e hM (by rw [pd_wa (by decide), pd_wa (by decide)]), ⟨bm, by rw [pd_w_self]; exact b1, b2⟩, LVM_e k0 hL2 (fun i hi => ⟨by rw [pd_w_ne (by decide), pd_w_ne (by decide)], by rw [pd_w_ne (by decide), pd_w_ne (by decide)], ?_, EQ_r⟩) mono_r, MRS_q hR (fun d hd => by rw [pd_wa (by omega), pd_wa (by omega)]), VI_c hV⟩
    show EQ DD (B i) (zlv B k0.length (fun _ => false) i)
    rw [zlv_n (show i ≠ k0.length by omega)]
    exact EQ_r
/-- into a block -/
theorem goI_t {bb cc dd : Int32} {cm rm ym : Nat → Bool} (hk : k.length < 4) (hT : TX n s v) (h35 : v 198 35 = Int32.ofNat k.length) (hM : MK v k) (hL : LVM v DD B W k) (hR : MRS 0 inp DD v) (hb : bb = xmk p m) (hc : MK8 cm cc) (hc2 : EQ DD cm (B k.length)) (hd : m = 1 → MK8 rm dd ∧ EQ DD rm (W k.length)) (hy : MK8 ym y) (hy2 : ∀ x, x < 8 → zgo ym DD x = f x) (hV : VI (z + 1, (p, m) :: k, f, B, W, DD)) : ∃ u, d_Mo_goInto bb cc dd y (Int32.ofNat z) v = some (Int32.ofNat (z + 1), u) ∧ AM s n inp (z + 1, (p, m) :: k, f, B, W, DD) u ∧ CT v u ∧ (∀ d, (203 ≤ d ∧ d ≤ 209) → u d = v d) := by
  refine ⟨pd_w (pd_w (pd_w (pd_w (pd_w v 216 k.length bb) 217 k.length cc) 218 k.length dd) 198 35 (Int32.ofNat k.length + (1 : Int32))) 198 36 y, ?_, ?_, fun k hk => by rw [pd_w_nk (by omega), pd_w_nk (by omega), pd_w_ne (by decide), pd_w_ne (by decide), pd_w_ne (by decide)], fun d hd => by rw [pd_wa (by omega), pd_wa (by omega), pd_wa (by omega), pd_wa (by omega), pd_wa (by omega)]⟩
  · unfold d_Mo_goInto
    rw [h35, in_nat (show k.length < 5 by omega) (by omega), cl_nat (by omega), ofN1 z]
    rfl
  · have lv : ∀ i, i ≠ k.length → ∀ d, (d = 216 ∨ d = 217 ∨ d = 218) → pd_w (pd_w (pd_w (pd_w (pd_w v 216 k.length bb) 217 k.length cc) 218 k.length dd) 198 35 (Int32.ofNat k.length + (1 : Int32))) 198 36 y d i = v d i := by
      intro i hi d hd
      rw [pd_w_ne (by omega), pd_w_ne (by omega)]
      rcases hd with e | e | e
      · rw [e, pd_w_ne (by decide), pd_w_ne (by decide), pd_w_nk hi]
      · rw [e, pd_w_ne (by decide), pd_w_nk hi, pd_w_ne (by decide)]
      · rw [e, pd_w_nk hi, pd_w_ne (by decide), pd_w_ne (by decide)]
    refine ⟨⟨by rw [pd_w_nk (by decide), pd_w_nk (by decide), pd_w_ne (by decide), pd_w_ne (by decide), pd_w_ne (by decide)]; exact hT.1, fun j hj => by rw [pd_w_ne (by decide), pd_w_ne (by decide), pd_w_ne (by decide), pd_w_ne (by decide), pd_w_ne (by decide)]; exact hT.2 j hj⟩, ?_, ⟨?_, ?_⟩, ⟨ym, by rw [pd_w_self]; exact hy, hy2⟩, ⟨⟨cm, ?_, hc2⟩, fun hm1 => ⟨rm, ?_, (hd hm1).2⟩, LVM_e k hL (fun i hi => ⟨lv i (by omega) 217 (by omega), lv i (by omega) 218 (by omega), EQ_r, EQ_r⟩) mono_r⟩, MRS_q hR (fun d hd => by rw [pd_wa (by omega), pd_wa (by omega), pd_wa (by omega), pd_wa (by omega), pd_wa (by omega)]), hV⟩
    · rw [pd_w_nk (by decide), pd_w_self, ofN1]
      rfl
    · rw [pd_w_ne (by decide), pd_w_ne (by decide), pd_w_ne (by decide), pd_w_ne (by decide), pd_w_self, hb]
    · exact MK_e (MK_w (x := bb) hM (Nat.le_refl _)) (by rw [pd_wa (by decide), pd_wa (by decide), pd_wa (by decide), pd_wa (by decide)])
    · rw [pd_w_ne (by decide), pd_w_ne (by decide), pd_w_ne (by decide), pd_w_self]; exact hc
    · rw [pd_w_ne (by decide), pd_w_ne (by decide), pd_w_self]; exact (hd hm1).1
end ZAM
