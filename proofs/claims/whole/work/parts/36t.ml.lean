/-! what varies, as the reference holds it -/
def ZV (W : Int32) (v : pd_V) : Prop := ∀ j, j < 8 → v 201 j = bi (zbt W j)
def ZB (v : pd_V) : xK → List Bool → Prop
  | [], [] => True
  | (_, m) :: k, d :: D => v 212 k.length = (bif Nat.beq m 1 then (1 : Int32) else 0) + (bif zun (d :: D) then (2 : Int32) else 0) ∧ ZB v k D
  | _, _ => False
section ZML
variable {s : Nat → Int32} {n w p m h b : Nat} {v u q : pd_V} {W x : Int32} {k k0 : xK} {D : List Bool} {d : Bool}
theorem ZB_e : ∀ {k : xK} {D : List Bool}, ZB v k D → (∀ j, j < k.length → q 212 j = v 212 j) → ZB q k D
  | [], [], _, _ => trivial
  | (_, _) :: k, _ :: _, hB, e => ⟨by rw [e k.length (by show k.length < k.length + 1; omega)]; exact hB.1, ZB_e hB.2 (fun j hj => e j (by show j < k.length + 1; omega))⟩
  | [], _ :: _, hB, _ => absurd hB id
  | _ :: _, [], hB, _ => absurd hB id
theorem ZB_l : ∀ {k : xK} {D : List Bool}, ZB v k D → D.length = k.length
  | [], [], _ => rfl
  | (_, _) :: k, _ :: D, hB => by
    show D.length + 1 = k.length + 1
    rw [ZB_l hB.2]
  | [], _ :: _, hB => absurd hB id
  | _ :: _, [], hB => absurd hB id
theorem bi_01 {c : Bool} : (bi c == 0 || bi c == 1) = true := by cases c <;> decide
theorem ZV_c (hV : ZV W v) {c : Int32} (hc : xvar c = true) : v 201 (c - 97).toNatClampNeg = bi (zbt W (c - 97).toNatClampNeg) := by
  obtain ⟨i, hi, e⟩ := vcaseN hc
  rw [e, cl_nat (by omega)]
  exact hV i hi
theorem zis_m (hn : n ≤ 160) (hD : DR n s v) (hb : b ≤ n) (hV : ZV W v) : ∀ (f a : Nat) (y : Bool), b - a < f → a ≤ b → Sf (d_Mo_isVarying_5 w f (Int32.ofNat b) (bi y) (Int32.ofNat a) v) (fun r => r = bi (y || xdf s a (b - a) W)) := by
  intro f
  induction f with
  | zero => intro a y h; exact absurd h (Nat.not_lt_zero _)
  | succ f ih =>
    intro a y hf ha
    rw [d_Mo_isVarying_5, le_nat (by omega) (by omega)]
    refine sf_d (fun c => sf_c bi_01 (sf_some ?_)) (fun c => ?_)
    · have e : b - a = 0 := by omega
      rw [e]
      show bi y = bi (y || false)
      rw [Bool.or_false]
    · rw [ofN1, cl_nat (by omega), hD.2 a (by omega)]
      have e : b - a = (b - (a + 1)) + 1 := by omega
      have i : pm_in (Int32.ofNat a) 160 = true := in_nat (by omega) (by omega)
      rw [e]
      have go : ∀ z : Bool, (y || ((decide (s a = 110) || decide (s a = 76) || (xvar (s a) && zbt W (s a - 97).toNatClampNeg)))) = z → Sf (d_Mo_isVarying_5 w f (Int32.ofNat b) (bi z) (Int32.ofNat (a + 1)) v) (fun r => r = bi (y || xdf s a (b - (a + 1) + 1) W)) := by
        intro z hz
        refine sf_mono (ih (a + 1) z (by omega) (by omega)) (fun r hr => ?_)
        rw [hr, ← hz]
        show _ = bi (y || ((decide (s a = 110) || decide (s a = 76) || (xvar (s a) && zbt W (s a - 97).toNatClampNeg)) || xdf s (a + 1) (b - (a + 1)) W))
        rw [Bool.or_assoc]
      cases y with
      | true => exact sf_n (fun _ => go true rfl) (fun z => absurd z (by decide))
      | false =>
        refine sf_n (fun z => absurd rfl z) (fun _ => sf_c i ?_)
        refine sf_d (fun c1 => go true (by rw [decide_eq_true c1]; rfl)) (fun c1 => sf_c i ?_)
        refine sf_d (fun c2 => go true (by rw [decide_eq_false c1, decide_eq_true c2]; rfl)) (fun c2 => sf_c i ?_)
        refine sf_n (fun c3 => go false (by rw [decide_eq_false c1, decide_eq_false c2, show xvar (s a) = false from decide_eq_false c3]; rfl)) (fun c3 => sf_c i ?_)
        have hv : xvar (s a) = true := decide_eq_true c3
        refine sf_c (vin8 hv) ?_
        have hz := ZV_c hV hv
        cases hb2 : zbt W (s a - 97).toNatClampNeg with
        | true =>
          rw [hb2] at hz
          exact sf_d (fun c4 => absurd (hz.symm.trans c4) (by decide)) (fun _ => go true (by rw [decide_eq_false c1, decide_eq_false c2, hv, hb2]; rfl))
        | false =>
          rw [hb2] at hz
          exact sf_d (fun _ => go false (by rw [decide_eq_false c1, decide_eq_false c2, hv, hb2]; rfl)) (fun c4 => absurd hz c4)
theorem zis_t {a : Nat} (hw : 4294967296 < w) (hn : n ≤ 160) (hD : DR n s v) (hb : b ≤ n) (ha : a ≤ b) (hV : ZV W v) : d_Mo_isVarying w (Int32.ofNat a) (Int32.ofNat b) v = some (bi (xdf s a (b - a) W)) := by
  obtain ⟨r, e1, e2⟩ := zis_m (s := s) (w := w) hn hD hb hV w a false (by omega) ha
  unfold d_Mo_isVarying
  rw [e2] at e1
  exact e1
theorem ZV_1 (hV : ZV W v) {c : Int32} (hc : xvar c = true) : ZV (W ||| zsh (c - 97)) (pd_w v 201 (c - 97).toNatClampNeg (1 : Int32)) := by
  intro j hj
  rw [zbt_o hc hj]
  by_cases e : j = (c - 97).toNatClampNeg
  · rw [e, pd_w_self, decide_eq_true rfl, Bool.or_true]
    rfl
  · rw [pd_w_nk e, decide_eq_false (fun z => e z.symm), Bool.or_false]
    exact hV j hj
theorem ZV_0 (hV : ZV W v) {c : Int32} (hc : xvar c = true) (h0 : zbt W (c - 97).toNatClampNeg = false) : ZV W (pd_w v 201 (c - 97).toNatClampNeg (0 : Int32)) := by
  intro j hj
  by_cases e : j = (c - 97).toNatClampNeg
  · rw [e, pd_w_self, h0]
    rfl
  · rw [pd_w_nk e]
    exact hV j hj
theorem ZV_s (hV : ZV W v) {c : Int32} (hc : xvar c = true) (h0 : zbt W (c - 97).toNatClampNeg = true) : ZV W (pd_w v 201 (c - 97).toNatClampNeg (1 : Int32)) := by
  intro j hj
  by_cases e : j = (c - 97).toNatClampNeg
  · rw [e, pd_w_self, h0]
    rfl
  · rw [pd_w_nk e]
    exact hV j hj
theorem ZV_w {a i : Nat} (hV : ZV W v) (ha : a ≠ 201) : ZV W (pd_w v a i x) := fun j hj => by
  rw [pd_w_ne (fun e => ha e.symm)]
  exact hV j hj
end ZML
