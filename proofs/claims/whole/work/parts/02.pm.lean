/-! PM: a pure machine. Its references are offsets (an offset a stands at address z + a; 1000000 is the script, at b); its heap is
(next offset, cells made, slots made, the cells); its frame is (pc, locals by place, stack). An instruction goes on, calls, or ends. -/
abbrev pm_E : Type := (Nat × vp_A) ⊕ (Nat × List Value)
abbrev pm_H : Type := Nat × Nat × Nat × (Nat → pm_E)
abbrev pm_L : Type := List (Option Value)
abbrev pm_S : Type := Nat × pm_L × List Value × pm_H
abbrev pm_O : Type := (Option Value ⊕ Nat) × pm_H
abbrev pm_R : Type := pm_S ⊕ (Nat × List Value × pm_S) ⊕ Option pm_O
abbrev pm_I : Type := pm_S → pm_R
def pm_t (z b k : Nat) : Nat := if k < 1000000 then z + k else b
def pm_v (z b : Nat) (v : Value) : Value := match v with
  | .ref a => .ref (pm_t z b a)
  | w => w
def pm_a (z b : Nat) (a : vp_A) : vp_A := match a with
  | (n, .inr (.inr (.inr (.inr f)))) => (n, .inr (.inr (.inr (.inr (fun j => (f j).map (pm_t z b))))))
  | x => x
def pm_c (z b : Nat) (aC : Nat → ClassId) (e : pm_E) : va_E := match e with
  | .inl (t, a) => .inl (aC t, pm_a z b a)
  | .inr (ci, fs) => .inr (ci, fs.map (pm_v z b))
def pm_w (z b : Nat) (aC : Nat → ClassId) (h : pm_H) : va_W := (List.range h.1).map (fun k => (z + k, pm_c z b aC (h.2.2.2 k)))
/-- a cell that is there -/
def pm_al (e : pm_E) : Bool := match e with
  | .inl (t, _) => !(Nat.beq t 999)
  | .inr _ => true
def pm_dead : pm_E := .inl (999, 0, .inl (fun _ => 0))
theorem pm_v_cat (z b : Nat) (v : Value) : (pm_v z b v).category = v.category := by cases v <;> rfl
theorem pm_t_lt {z b k : Nat} (h : k < 1000000) : pm_t z b k = z + k := if_pos h
theorem pm_w_len (z b : Nat) (aC : Nat → ClassId) (h : pm_H) : (pm_w z b aC h).length = h.1 := by simp [pm_w]
theorem pm_w_get {z b : Nat} {aC : Nat → ClassId} {h : pm_H} {k : Nat} (hk : k < h.1) : (pm_w z b aC h)[k]? = some (z + k, pm_c z b aC (h.2.2.2 k)) := by
  simp [pm_w, List.getElem?_map, List.getElem?_range hk]
theorem pm_w_inv {z b : Nat} {aC : Nat → ClassId} {h : pm_H} {k : Nat} {q : Nat × va_E} (hq : (pm_w z b aC h)[k]? = some q) : k < h.1 ∧ q = (z + k, pm_c z b aC (h.2.2.2 k)) := by
  have hk : k < h.1 := by
    have h1 := (List.getElem?_eq_some_iff.mp hq).1
    rwa [pm_w_len] at h1
  rw [pm_w_get hk] at hq
  exact ⟨hk, (Option.some.inj hq).symm⟩
theorem pm_w_set {z b : Nat} {aC : Nat → ClassId} {n kc ks : Nat} {μ : Nat → pm_E} {k : Nat} (e : pm_E) (hk : k < n) : (pm_w z b aC (n, kc, ks, μ)).set k (z + k, pm_c z b aC e) = pm_w z b aC (n, kc, ks, va_up μ k e) := by
  apply List.ext_getElem?
  intro j
  by_cases hj : j = k
  · subst hj
    rw [List.getElem?_set_self (by rw [pm_w_len]; exact hk), pm_w_get (h := (n, kc, ks, va_up μ j e)) hk]
    simp [va_up]
  · rw [List.getElem?_set_ne (Ne.symm hj)]
    by_cases hl : j < n
    · rw [pm_w_get (h := (n, kc, ks, μ)) hl, pm_w_get (h := (n, kc, ks, va_up μ k e)) hl]
      simp [va_up, hj]
    · rw [List.getElem?_eq_none (by rw [pm_w_len]; exact Nat.le_of_not_lt hl), List.getElem?_eq_none (by rw [pm_w_len]; exact Nat.le_of_not_lt hl)]
theorem pm_w_push {z b : Nat} {aC : Nat → ClassId} {n kc ks kc' ks' : Nat} {μ : Nat → pm_E} (e : pm_E) : pm_w z b aC (n + 1, kc', ks', va_up μ n e) = pm_w z b aC (n, kc, ks, μ) ++ [(z + n, pm_c z b aC e)] := by
  simp only [pm_w, List.range_succ, List.map_append, List.map_cons, List.map_nil, va_up_self]
  congr 1
  apply List.map_congr_left
  intro k hk
  have : k < n := List.mem_range.mp hk
  rw [va_up_ne _ _ (by omega)]
theorem pm_w_kc {z b : Nat} {aC : Nat → ClassId} {n kc ks kc' ks' : Nat} {μ : Nat → pm_E} : pm_w z b aC (n, kc, ks, μ) = pm_w z b aC (n, kc', ks', μ) := rfl
theorem pm_w_D {z b : Nat} {aC : Nat → ClassId} {h : pm_H} : va_D (fun q : Nat => z ≤ q) (pm_w z b aC h) := by
  refine ⟨fun i j x y hx hy hxy => ?_, fun k q hq => ?_⟩
  · obtain ⟨-, rfl⟩ := pm_w_inv hx
    obtain ⟨-, rfl⟩ := pm_w_inv hy
    have h9 : z + i = z + j := hxy
    omega
  · obtain ⟨-, rfl⟩ := pm_w_inv hq
    show z ≤ z + k
    omega
/-- the machine's heap holds the pure one -/
def pm_Q (D : va_G) (cl : List vw_C) (z b : Nat) (aC : Nat → ClassId) (h : pm_H) (H : Heap) : Prop :=
  va_P D cl (pm_w z b aC h) H ∧ h.1 ≤ 1000000 ∧ ∀ a, pm_al (h.2.2.2 a) = true → a < h.1
/-- the machine's locals hold the pure ones -/
def pm_LV (z b nL : Nat) (LS : Array Slot) (pl : pm_L) : Prop := pl.length = nL ∧ LS.size = pl.length ∧ lv_wf LS ∧ ∀ (i : Nat) (v : Value), pl[i]? = some (some v) → LS[i]? = some (.val (pm_v z b v))
/-! ## instructions -/
def pi_go (g : pm_S → Option pm_S) : pm_I := fun S => match g S with
  | some S' => .inl S'
  | none => .inr (.inr none)
def pm_n1 (v : Value) : Bool := Nat.beq v.category 1
def pm_in (i : Int32) (n : Nat) : Bool := !(decide (i < 0)) && Nat.blt i.toNatClampNeg n
theorem pm_in_vp {i : Int32} {n : Nat} (h : pm_in i n = true) : vp_in i n := by
  simp only [pm_in, Bool.and_eq_true, Bool.not_eq_true', decide_eq_false_iff_not, Nat.blt_eq] at h
  intro q
  rcases q with q | q
  · exact h.1 q
  · omega
theorem pm_vp_in {i : Int32} {n : Nat} (h : vp_in i n) : pm_in i n = true := by
  simp only [pm_in, Bool.and_eq_true, Bool.not_eq_true', decide_eq_false_iff_not, Nat.blt_eq]
  refine ⟨fun q => h (Or.inl q), ?_⟩
  rcases Nat.lt_or_ge i.toNatClampNeg n with q | q
  · exact q
  · exact absurd (Or.inr q) h
def pm_wide (o : Option (Option Value)) : Bool := match o with
  | some (some (.long _)) => true
  | some (some (.double _)) => true
  | _ => false
def pm_ok (ls : pm_L) (i : Nat) : Bool := Nat.blt i ls.length && !(Nat.blt 0 i && pm_wide ls[i - 1]?)
def pg_c (v : Value) (len : Nat) : pm_S → Option pm_S
  | (pc, ls, st, h) => some (pc + len, ls, v :: st, h)
def pg_iload (i len : Nat) : pm_S → Option pm_S
  | (pc, ls, st, h) => match ls[i]? with
    | some (some (.int x)) => some (pc + len, ls, .int x :: st, h)
    | _ => none
def pg_lload (i len : Nat) : pm_S → Option pm_S
  | (pc, ls, st, h) => match ls[i]? with
    | some (some (.long x)) => some (pc + len, ls, .long x :: st, h)
    | _ => none
def pg_aload (i len : Nat) : pm_S → Option pm_S
  | (pc, ls, st, h) => match ls[i]? with
    | some (some (.ref x)) => some (pc + len, ls, .ref x :: st, h)
    | _ => none
def pg_istore (i len : Nat) : pm_S → Option pm_S
  | (pc, ls, .int x :: st, h) => bif pm_ok ls i then some (pc + len, ls.set i (some (.int x)), st, h) else none
  | _ => none
def pg_astore (i len : Nat) : pm_S → Option pm_S
  | (pc, ls, .ref x :: st, h) => bif pm_ok ls i then some (pc + len, ls.set i (some (.ref x)), st, h) else none
  | _ => none
def pg_lstore (i len : Nat) : pm_S → Option pm_S
  | (pc, ls, .long x :: st, h) => bif pm_ok ls i && Nat.blt (i + 1) ls.length then some (pc + len, (ls.set (i + 1) none).set i (some (.long x)), st, h) else none
  | _ => none
def pg_iinc (i : Nat) (n : Int32) (len : Nat) : pm_S → Option pm_S
  | (pc, ls, st, h) => match ls[i]? with
    | some (some (.int x)) => bif pm_ok ls i then some (pc + len, ls.set i (some (.int (x + n))), st, h) else none
    | _ => none
def pg_i2 (f : Int32 → Int32 → Int32) : pm_S → Option pm_S
  | (pc, ls, .int y :: .int x :: st, h) => some (pc + 1, ls, .int (f x y) :: st, h)
  | _ => none
def pg_i1 (f : Int32 → Int32) : pm_S → Option pm_S
  | (pc, ls, .int x :: st, h) => some (pc + 1, ls, .int (f x) :: st, h)
  | _ => none
def pg_l2 (f : Int64 → Int64 → Int64) : pm_S → Option pm_S
  | (pc, ls, .long y :: .long x :: st, h) => some (pc + 1, ls, .long (f x y) :: st, h)
  | _ => none
def pg_il (f : Int32 → Int64) : pm_S → Option pm_S
  | (pc, ls, .int x :: st, h) => some (pc + 1, ls, .long (f x) :: st, h)
  | _ => none
def pg_li (f : Int64 → Int32) : pm_S → Option pm_S
  | (pc, ls, .long x :: st, h) => some (pc + 1, ls, .int (f x) :: st, h)
  | _ => none
def pg_ls (f : Int64 → Int32 → Int64) : pm_S → Option pm_S
  | (pc, ls, .int y :: .long x :: st, h) => some (pc + 1, ls, .long (f x y) :: st, h)
  | _ => none
def pg_ll (f : Int64 → Int64 → Int32) : pm_S → Option pm_S
  | (pc, ls, .long y :: .long x :: st, h) => some (pc + 1, ls, .int (f x y) :: st, h)
  | _ => none
def pg_if (f : Int32 → Bool) (tgt : Nat) : pm_S → Option pm_S
  | (pc, ls, .int x :: st, h) => some (bif f x then tgt else pc + 3, ls, st, h)
  | _ => none
def pg_icmp (f : Int32 → Int32 → Bool) (tgt : Nat) : pm_S → Option pm_S
  | (pc, ls, .int y :: .int x :: st, h) => some (bif f x y then tgt else pc + 3, ls, st, h)
  | _ => none
def pg_goto (tgt : Nat) : pm_S → Option pm_S
  | (_, ls, st, h) => some (tgt, ls, st, h)
def pg_sw (f : Int32 → Nat) : pm_S → Option pm_S
  | (_, ls, .int x :: st, h) => some (f x, ls, st, h)
  | _ => none
def pg_dup : pm_S → Option pm_S
  | (pc, ls, v :: st, h) => bif pm_n1 v then some (pc + 1, ls, v :: v :: st, h) else none
  | _ => none
def pg_pop : pm_S → Option pm_S
  | (pc, ls, v :: st, h) => bif pm_n1 v then some (pc + 1, ls, st, h) else none
  | _ => none
def pg_dup_x1 : pm_S → Option pm_S
  | (pc, ls, v :: w :: st, h) => bif pm_n1 v && pm_n1 w then some (pc + 1, ls, v :: w :: v :: st, h) else none
  | _ => none
def pg_dup_x2 : pm_S → Option pm_S
  | (pc, ls, v :: w :: u :: st, h) => bif pm_n1 v && (pm_n1 w && pm_n1 u) then some (pc + 1, ls, v :: w :: u :: v :: st, h) else none
  | _ => none
def pg_dup2 : pm_S → Option pm_S
  | (pc, ls, v :: w :: st, h) => bif pm_n1 v && pm_n1 w then some (pc + 1, ls, v :: w :: v :: w :: st, h) else none
  | _ => none
def pg_get (ci k : Nat) : pm_S → Option pm_S
  | (pc, ls, .ref a :: st, h) => match h.2.2.2 a with
    | .inr (c, fs) => bif Nat.beq c ci then (match fs[k]? with
      | some v => some (pc + 3, ls, v :: st, h)
      | none => none) else none
    | _ => none
  | _ => none
/-- what a field of a kind may hold: 0 int, 1 boolean, 2 a reference, 3 long -/
def pm_fit (ty : Nat) (v : Value) : Bool := match ty, v with
  | 0, .int _ => true
  | 1, .int x => x == 0 || x == 1
  | 2, .ref _ => true
  | 2, .null => true
  | 3, .long _ => true
  | _, _ => false
def pg_put (ci k ty : Nat) : pm_S → Option pm_S
  | (pc, ls, v :: .ref a :: st, (n, kc, ks, μ)) => match μ a with
    | .inr (c, fs) => bif Nat.beq c ci && (Nat.blt k fs.length && pm_fit ty v) then some (pc + 3, ls, st, (n, kc, ks, va_up μ a (.inr (c, fs.set k v)))) else none
    | _ => none
  | _ => none
def pg_iald : pm_S → Option pm_S
  | (pc, ls, .int i :: .ref a :: st, h) => match h.2.2.2 a with
    | .inl (0, n, .inl f) => bif pm_in i n then some (pc + 1, ls, .int (f i.toNatClampNeg) :: st, h) else none
    | _ => none
  | _ => none
def pg_iast : pm_S → Option pm_S
  | (pc, ls, .int x :: .int i :: .ref a :: st, (m, kc, ks, μ)) => match μ a with
    | .inl (0, n, .inl f) => bif pm_in i n then some (pc + 1, ls, st, (m, kc, ks, va_up μ a (.inl (0, n, .inl (upd f i.toNatClampNeg x))))) else none
    | _ => none
  | _ => none
def pg_lald : pm_S → Option pm_S
  | (pc, ls, .int i :: .ref a :: st, h) => match h.2.2.2 a with
    | .inl (1, n, .inr (.inl f)) => bif pm_in i n then some (pc + 1, ls, .long (f i.toNatClampNeg) :: st, h) else none
    | _ => none
  | _ => none
def pg_last : pm_S → Option pm_S
  | (pc, ls, .long x :: .int i :: .ref a :: st, (m, kc, ks, μ)) => match μ a with
    | .inl (1, n, .inr (.inl f)) => bif pm_in i n then some (pc + 1, ls, st, (m, kc, ks, va_up μ a (.inl (1, n, .inr (.inl (vp_updL f i.toNatClampNeg x)))))) else none
    | _ => none
  | _ => none
/-- arrays of booleans -/
def pg_zald : pm_S → Option pm_S
  | (pc, ls, .int i :: .ref a :: st, h) => match h.2.2.2 a with
    | .inl (2, n, .inl f) => bif pm_in i n then some (pc + 1, ls, .int (f i.toNatClampNeg) :: st, h) else none
    | _ => none
  | _ => none
def pg_zast : pm_S → Option pm_S
  | (pc, ls, .int x :: .int i :: .ref a :: st, (m, kc, ks, μ)) => match μ a with
    | .inl (2, n, .inl f) => bif pm_in i n && (x == 0 || x == 1) then some (pc + 1, ls, st, (m, kc, ks, va_up μ a (.inl (2, n, .inl (upd f i.toNatClampNeg x))))) else none
    | _ => none
  | _ => none
/-- an array of references of kind t -/
def pg_aald (t : Nat) : pm_S → Option pm_S
  | (pc, ls, .int i :: .ref a :: st, h) => match h.2.2.2 a with
    | .inl (u, n, .inr (.inr (.inr (.inr f)))) => bif Nat.beq u t && pm_in i n then some (pc + 1, ls, va_rf (f i.toNatClampNeg) :: st, h) else none
    | _ => none
  | _ => none
def pg_aast (t ci : Nat) : pm_S → Option pm_S
  | (pc, ls, .ref v :: .int i :: .ref a :: st, (m, kc, ks, μ)) => match μ a, μ v with
    | .inl (u, n, .inr (.inr (.inr (.inr f)))), .inr (c, _) => bif Nat.beq u t && (Nat.beq c ci && pm_in i n) then some (pc + 1, ls, st, (m, kc, ks, va_up μ a (.inl (u, n, .inr (.inr (.inr (.inr (va_up f i.toNatClampNeg (some v))))))))) else none
    | _, _ => none
  | _ => none
def pg_alen : pm_S → Option pm_S
  | (pc, ls, .ref a :: st, h) => match h.2.2.2 a with
    | .inl (0, n, .inl _) => some (pc + 1, ls, .int (Int32.ofNat n) :: st, h)
    | _ => none
  | _ => none
/-- the script -/
def pg_sald (xs : Nat → Int32) (L : Nat) : pm_S → Option pm_S
  | (pc, ls, .int i :: .ref a :: st, h) => bif Nat.beq a 1000000 && pm_in i L then some (pc + 1, ls, .int (xs i.toNatClampNeg) :: st, h) else none
  | _ => none
def pg_slen (L : Nat) : pm_S → Option pm_S
  | (pc, ls, .ref a :: st, h) => bif Nat.beq a 1000000 then some (pc + 1, ls, .int (Int32.ofNat L) :: st, h) else none
  | _ => none
/-- new: only while no exception has been made, so that offsets are addresses -/
def pg_new (ci N : Nat) (fs : List Value) : pm_S → Option pm_S
  | (pc, ls, st, (n, kc, ks, μ)) => bif Nat.beq n kc && Nat.blt n 1000000 then some (pc + 3, ls, .ref n :: st, (n + 1, kc + 1, ks + N, va_up μ n (.inr (ci, fs)))) else none
def pg_newi : pm_S → Option pm_S
  | (pc, ls, .int x :: st, (n, kc, ks, μ)) => bif Nat.beq n kc && (Nat.blt n 1000000 && pm_in x 1000000) then some (pc + 2, ls, .ref n :: st, (n + 1, kc + 1, ks + x.toNatClampNeg, va_up μ n (.inl (0, x.toNatClampNeg, .inl (fun _ => 0))))) else none
  | _ => none
def pg_newl : pm_S → Option pm_S
  | (pc, ls, .int x :: st, (n, kc, ks, μ)) => bif Nat.beq n kc && (Nat.blt n 1000000 && pm_in x 1000000) then some (pc + 2, ls, .ref n :: st, (n + 1, kc + 1, ks + x.toNatClampNeg, va_up μ n (.inl (1, x.toNatClampNeg, .inr (.inl (fun _ => 0)))))) else none
  | _ => none
def pg_newz : pm_S → Option pm_S
  | (pc, ls, .int x :: st, (n, kc, ks, μ)) => bif Nat.beq n kc && (Nat.blt n 1000000 && pm_in x 1000000) then some (pc + 2, ls, .ref n :: st, (n + 1, kc + 1, ks + x.toNatClampNeg, va_up μ n (.inl (2, x.toNatClampNeg, .inl (fun _ => 0))))) else none
  | _ => none
def pg_newq (t : Nat) : pm_S → Option pm_S
  | (pc, ls, .int x :: st, (n, kc, ks, μ)) => bif Nat.beq n kc && (Nat.blt n 1000000 && pm_in x 1000000) then some (pc + 3, ls, .ref n :: st, (n + 1, kc + 1, ks + x.toNatClampNeg, va_up μ n (.inl (t, x.toNatClampNeg, .inr (.inr (.inr (.inr (fun _ => none)))))))) else none
  | _ => none
/-- Object.<init> -/
def pg_obj : pm_S → Option pm_S
  | (pc, ls, .ref _ :: st, h) => bif Nat.ble (st.map (fun v => v.category)).sum 8 then some (pc + 3, ls, st, h) else none
  | _ => none
/-- System.arraycopy of ints -/
def pg_copy : pm_S → Option pm_S
  | (pc, ls, .int n :: .int dp :: .ref a :: .int sp :: .ref a0 :: st, (m, kc, ks, μ)) => match μ a0, μ a with
    | .inl (0, n0, .inl f), .inl (0, n1, .inl g) => bif (!(decide (sp < 0)) && (!(decide (dp < 0)) && !(decide (n < 0)))) && (Nat.ble (sp.toNatClampNeg + n.toNatClampNeg) n0 && (Nat.ble (dp.toNatClampNeg + n.toNatClampNeg) n1 && Nat.ble (st.map (fun v => v.category)).sum 8))
      then some (pc + 3, ls, st, (m, kc, ks, va_up μ a (.inl (0, n1, .inl (va_cpy f g sp.toNatClampNeg dp.toNatClampNeg n.toNatClampNeg))))) else none
    | _, _ => none
  | _ => none
/-- a call of method j with n arguments (the receiver counted) -/
def pi_call (j n : Nat) : pm_I := fun S => match S with
  | (pc, ls, st, h) => bif Nat.ble n st.length && Nat.ble ((st.drop n).map (fun v => v.category)).sum 8 then .inr (.inl (j, (st.take n).reverse, (pc, ls, st.drop n, h))) else .inr (.inr none)
/-- .. whose receiver is found by its class ci -/
def pm_isa (ci : Nat) (h : pm_H) (as : List Value) : Bool := match as with
  | .ref a :: _ => match h.2.2.2 a with
    | .inr (c, _) => Nat.beq c ci
    | _ => false
  | _ => false
def pi_callv (j n ci : Nat) : pm_I := fun S => match S with
  | (pc, ls, st, h) => bif (Nat.ble n st.length && Nat.ble ((st.drop n).map (fun v => v.category)).sum 8) && pm_isa ci h (st.take n).reverse then .inr (.inl (j, (st.take n).reverse, (pc, ls, st.drop n, h))) else .inr (.inr none)
/-- ends -/
def pi_vret : pm_I := fun S => match S with
  | (_, _, [], h) => .inr (.inr (some (.inl none, h)))
  | _ => .inr (.inr none)
def pi_iret : pm_I := fun S => match S with
  | (_, _, [.int x], h) => .inr (.inr (some (.inl (some (.int x)), h)))
  | _ => .inr (.inr none)
def pi_zret : pm_I := fun S => match S with
  | (_, _, [.int x], h) => bif x == 0 || x == 1 then .inr (.inr (some (.inl (some (.int x)), h))) else .inr (.inr none)
  | _ => .inr (.inr none)
def pi_aret : pm_I := fun S => match S with
  | (_, _, [.ref x], h) => .inr (.inr (some (.inl (some (.ref x)), h)))
  | _ => .inr (.inr none)
/-- throw new X("text") -/
def pi_throw (x : Nat) : pm_I := fun S => match S with
  | (_, _, st, (n, kc, ks, μ)) => bif Nat.ble (st.map (fun v => v.category)).sum 8 then .inr (.inr (some (.inr x, (n, kc + 1, ks + 6, μ)))) else .inr (.inr none)
/-! ## the run: methods are (code by state, locals at the entry, what becomes of an exception: caught (the pc behind its store, the local that held it), passed on (true), or no matter (false)) -/
def pm_sl (as : List Value) : pm_L := match as with
  | [] => []
  | v :: vs => bif Nat.beq v.category 2 then some v :: none :: pm_sl vs else some v :: pm_sl vs
def pm_ent (n : Nat) (as : List Value) : Option pm_L := bif Nat.ble (pm_sl as).length n then some (pm_sl as ++ List.replicate (n - (pm_sl as).length) none) else none
def pm_look (tbl : List (Nat × pm_I)) (pc : Nat) : pm_I := match tbl with
  | [] => fun _ => .inr (.inr none)
  | q :: t => bif Nat.beq q.1 pc then q.2 else pm_look t pc
abbrev pm_M : Type := pm_I × (List Value → Option pm_L) × (Nat → Nat → (Nat × Nat) ⊕ Bool)
def pm_run (P : Nat → pm_M) : Nat → Nat → Nat → pm_S → Option pm_O
  | 0, _, _, _ => none
  | f + 1, d, k, S => match (P k).1 S with
    | .inl S' => pm_run P f d k S'
    | .inr (.inl (j, as, S')) => match d, (P j).2.1 as with
      | d + 1, some L => match pm_run P f d j (0, L, [], S'.2.2.2) with
        | none => none
        | some (.inl v, h') => pm_run P f (d + 1) k (S'.1 + 3, S'.2.1, v.toList ++ S'.2.2.1, h')
        | some (.inr x, h') => match (P k).2.2 S'.1 x with
          | .inl (pc, i) => pm_run P f (d + 1) k (pc, S'.2.1.map (fun _ => none), [], h')
          | .inr true => some (.inr x, h')
          | .inr false => none
      | _, _ => none
    | .inr (.inr o) => o
