/-! the reference compiles -/
def BW (v : pd_V) : Prop := ∀ j, j < 8 → v 202 j = 0 ∨ v 202 j = 1
/-- what the reference holds between the calls -/
def JM (b : Int) (v : pd_V) : Prop := (∃ d, d ≤ 160 ∧ v 198 2 = Int32.ofNat d) ∧ BV v ∧ BW v ∧ (v 198 5 ≠ 0 → ∃ n s, n ≤ 160 ∧ (∀ j, n ≤ j → s j = 0) ∧ xR s n [] ∧ TX n s v) ∧ (v 198 20 ≠ 0 → v 198 5 ≠ 0) ∧ (0 ≤ (v 198 22).toInt ∧ (v 198 22).toInt ≤ b)
/-- what a call of the reference leaves alone -/
def FM (v q : pd_V) : Prop := (∀ a, a < 198 → q a = v a) ∧ q 198 2 = v 198 2
section CM
variable {s : Nat → Int32} {n w : Nat} {v u q : pd_V} {p : Nat} {x : Int32} {b : Int}
theorem FM_r : FM v v := ⟨fun _ _ => rfl, rfl⟩
theorem FM_t (h1 : FM v u) (h2 : FM u q) : FM v q := ⟨fun a h => (h2.1 a h).trans (h1.1 a h), h2.2.trans h1.2⟩
theorem FM_w {a k : Nat} (h : FM v u) (ha : 199 ≤ a) : FM v (pd_w u a k x) := ⟨fun c hc => by rw [pd_wa (by omega)]; exact h.1 c hc, by rw [pd_w_ne (by omega)]; exact h.2⟩
theorem FM_k {k : Nat} (h : FM v u) (hk : 2 ≠ k) : FM v (pd_w u 198 k x) := ⟨fun c hc => by rw [pd_wa (by omega)]; exact h.1 c hc, by rw [pd_w_nk hk]; exact h.2⟩
/-- what JM looks at -/
theorem JM_e (h : JM b v) (e : ∀ a, (a = 200 ∨ a = 201 ∨ a = 202) → q a = v a) (f : ∀ k, (k = 2 ∨ k = 4 ∨ k = 5 ∨ k = 20 ∨ k = 22) → q 198 k = v 198 k) : JM b q := by
  obtain ⟨h1, h2, h3, h4, h5, h6⟩ := h
  refine ⟨?_, fun j hj => by rw [e 201 (by omega)]; exact h2 j hj, fun j hj => by rw [e 202 (by omega)]; exact h3 j hj, fun c => ?_, ?_, ?_⟩
  · rw [f 2 (by omega)]; exact h1
  · rw [f 5 (by omega)] at c
    obtain ⟨n, s, g1, g2, g3, g4, g5⟩ := h4 c
    exact ⟨n, s, g1, g2, g3, by rw [f 4 (by omega)]; exact g4, fun j hj => by rw [e 200 (by omega)]; exact g5 j hj⟩
  · rw [f 20 (by omega), f 5 (by omega)]; exact h5
  · rw [f 22 (by omega)]; exact h6
theorem JM_k {k : Nat} (h : JM b v) (hk : k ≠ 2 ∧ k ≠ 4 ∧ k ≠ 5 ∧ k ≠ 20 ∧ k ≠ 22) : JM b (pd_w v 198 k x) := JM_e h (fun a ha => pd_wa (by omega)) (fun j hj => pd_w_nk (by omega))
def CS (v q : pd_V) : Prop := (∀ a, a ≠ 198 → a ≠ 201 → a ≠ 202 → a ≠ 212 → q a = v a) ∧ (∀ k, k ≠ 10 → k ≠ 7 → q 198 k = v 198 k) ∧ (BV v ∧ BW v → BV q ∧ BW q)
theorem CS_r : CS v v := ⟨fun _ _ _ _ _ => rfl, fun _ _ _ => rfl, id⟩
theorem CS_t (h1 : CS v u) (h2 : CS u q) : CS v q := ⟨fun a b c d e => (h2.1 a b c d e).trans (h1.1 a b c d e), fun k b c => (h2.2.1 k b c).trans (h1.2.1 k b c), fun b => h2.2.2 (h1.2.2 b)⟩
theorem CS_L (h : LK v q) : CS v q := ⟨fun a b c _ e => h.1 a b c e, fun k b _ => h.2.1 k b, fun z => ⟨h.2.2 z.1, fun j hj => by rw [h.1 202 (by decide) (by decide) (by decide)]; exact z.2 j hj⟩⟩
theorem CS_k {k : Nat} (h : CS v u) (hk : k = 10 ∨ k = 7) : CS v (pd_w u 198 k x) := ⟨fun a b c d e => by rw [pd_wa b]; exact h.1 a b c d e, fun j b c => by rw [pd_w_nk (by omega)]; exact h.2.1 j b c, fun z => ⟨fun j hj => by rw [pd_w_ne (by decide)]; exact (h.2.2 z).1 j hj, fun j hj => by rw [pd_w_ne (by decide)]; exact (h.2.2 z).2 j hj⟩⟩
theorem CS_1 {j : Nat} (h : CS v u) (hx : BV v ∧ BW v → x = 0 ∨ x = 1) : CS v (pd_w u 201 j x) := ⟨fun a b c d e => by rw [pd_wa c]; exact h.1 a b c d e, fun i b c => by rw [pd_w_ne (by decide)]; exact h.2.1 i b c, fun z => ⟨BV_w (h.2.2 z).1 (hx z), fun i hi => by rw [pd_w_ne (by decide)]; exact (h.2.2 z).2 i hi⟩⟩
theorem CS_2 {j : Nat} (h : CS v u) (hx : BV v ∧ BW v → x = 0 ∨ x = 1) : CS v (pd_w u 202 j x) := ⟨fun a b c d e => by rw [pd_wa d]; exact h.1 a b c d e, fun i b c => by rw [pd_w_ne (by decide)]; exact h.2.1 i b c, fun z => ⟨fun i hi => by rw [pd_w_ne (by decide)]; exact (h.2.2 z).1 i hi, fun i hi => by
  by_cases e : i = j
  · rw [e, pd_w_self]; exact hx z
  · rw [pd_w_nk e]; exact (h.2.2 z).2 i hi⟩⟩
theorem DR_C (h : DR n s v) (e : CS v q) : DR n s q := ⟨by rw [e.2.1 2 (by decide) (by decide)]; exact h.1, fun j hj => by rw [e.1 199 (by decide) (by decide) (by decide) (by decide)]; exact h.2 j hj⟩
theorem FM_C (h : CS v q) : FM v q := ⟨fun a ha => h.1 a (by omega) (by omega) (by omega) (by omega), h.2.1 2 (by decide) (by decide)⟩
theorem JM_C (h : JM b v) (e : CS v q) : JM b q := by
  obtain ⟨h1, h2, h3, h4, h5, h6⟩ := h
  have hb := e.2.2 ⟨h2, h3⟩
  refine ⟨by rw [e.2.1 2 (by decide) (by decide)]; exact h1, hb.1, hb.2, fun c => ?_, ?_, ?_⟩
  · rw [e.2.1 5 (by decide) (by decide)] at c
    obtain ⟨n, s, g1, g2, g3, g4, g5⟩ := h4 c
    exact ⟨n, s, g1, g2, g3, by rw [e.2.1 4 (by decide) (by decide)]; exact g4, fun j hj => by rw [e.1 200 (by decide) (by decide) (by decide) (by decide)]; exact g5 j hj⟩
  · rw [e.2.1 20 (by decide) (by decide), e.2.1 5 (by decide) (by decide)]; exact h5
  · rw [e.2.1 22 (by decide) (by decide)]; exact h6
theorem b01 {y : Int32} (h : y = 0 ∨ y = 1) : (y == 0 || y == 1) = true := by rcases h with h | h <;> (rw [h]; decide)
theorem c95 (hJ : JM b v) : ∀ (f j : Nat) (u : pd_V), CS v u → j ≤ 8 → 8 - j < f → Sf (d_Mo_compile_95 w f (Int32.ofNat j) u) (fun r => CS v r.2) := by
  intro f
  induction f with
  | zero => intro j u _ _ h; exact absurd h (Nat.not_lt_zero _)
  | succ f ih =>
    intro j u hu hj hf
    rw [d_Mo_compile_95, decide_eq_decide.mpr (lane8 hj)]
    refine sf_d (fun _ => sf_some hu) (fun c => ?_)
    have i8 : pm_in (Int32.ofNat j) 8 = true := in_nat (by omega) (by omega)
    have hb := (hu.2.2 ⟨hJ.2.1, hJ.2.2.1⟩).2 j (by omega)
    rw [ofN1, cl_nat (by omega)]
    exact sf_c i8 (sf_c i8 (sf_c (b01 hb) (ih (j + 1) _ (CS_1 hu (fun _ => hb)) (by omega) (by omega))))
theorem c123 {d : Nat} (hd : d ≤ 160) (h0 : ∀ j, d ≤ j → s j = 0) (hW : xR s d []) : ∀ (f a : Nat) (v : pd_V), DR d s v → a ≤ d → (∀ j, j < a → v 200 j = s j) → BV v → BW v → (0 ≤ (v 198 22).toInt ∧ (v 198 22).toInt ≤ b) → d - a < f → Sf (d_Mo_compile_123 w f (Int32.ofNat a) v) (fun r => JM b r.2 ∧ FM v r.2) := by
  intro f
  induction f with
  | zero => intro a v _ _ _ _ _ _ h; exact absurd h (Nat.not_lt_zero _)
  | succ f ih =>
    intro a v hD ha hc hV hB h22 hf
    rw [d_Mo_compile_123, hD.1, le_nat (by omega) (by omega)]
    refine sf_d (fun c => ?_) (fun c => ?_)
    · have e : a = d := by omega
      subst e
      have key : JM b (pd_w (pd_w (pd_w (pd_w (pd_w v 198 4 (Int32.ofNat a)) 198 5 (1 : Int32)) 198 20 (0 : Int32)) 198 26 (0 : Int32)) 198 27 (0 : Int32)) ∧ FM v (pd_w (pd_w (pd_w (pd_w (pd_w v 198 4 (Int32.ofNat a)) 198 5 (1 : Int32)) 198 20 (0 : Int32)) 198 26 (0 : Int32)) 198 27 (0 : Int32)) := by
        refine ⟨⟨⟨a, hd, ?_⟩, fun j hj => ?_, fun j hj => ?_, fun _ => ⟨a, s, hd, h0, hW, ?_, fun j hj => ?_⟩, fun c2 => ?_, ?_⟩, FM_k (FM_k (FM_k (FM_k (FM_k FM_r (by decide)) (by decide)) (by decide)) (by decide)) (by decide)⟩
        · rw [pd_w_nk (by decide), pd_w_nk (by decide), pd_w_nk (by decide), pd_w_nk (by decide), pd_w_nk (by decide)]; exact hD.1
        · rw [pd_w_ne (by decide), pd_w_ne (by decide), pd_w_ne (by decide), pd_w_ne (by decide), pd_w_ne (by decide)]; exact hV j hj
        · rw [pd_w_ne (by decide), pd_w_ne (by decide), pd_w_ne (by decide), pd_w_ne (by decide), pd_w_ne (by decide)]; exact hB j hj
        · rw [pd_w_nk (by decide), pd_w_nk (by decide), pd_w_nk (by decide), pd_w_nk (by decide), pd_w_self]
        · rw [pd_w_ne (by decide), pd_w_ne (by decide), pd_w_ne (by decide), pd_w_ne (by decide), pd_w_ne (by decide)]; exact hc j hj
        · rw [pd_w_nk (by decide), pd_w_nk (by decide), pd_w_self] at c2
          exact absurd rfl c2
        · rw [pd_w_nk (by decide), pd_w_nk (by decide), pd_w_nk (by decide), pd_w_nk (by decide), pd_w_nk (by decide)]; exact h22
      exact sf_some key
    · have i : pm_in (Int32.ofNat a) 160 = true := in_nat (by omega) (by omega)
      rw [ofN1, cl_nat (by omega), hD.2 a (by omega)]
      refine sf_c i (sf_c i ?_)
      refine sf_mono (ih (a + 1) (pd_w v 200 a (s a)) ⟨by rw [pd_w_ne (by decide)]; exact hD.1, fun j hj => by rw [pd_w_ne (by decide)]; exact hD.2 j hj⟩ (by omega) (fun j hj => ?_) (fun j hj => by rw [pd_w_ne (by decide)]; exact hV j hj) (fun j hj => by rw [pd_w_ne (by decide)]; exact hB j hj) (by rw [pd_w_ne (by decide)]; exact h22) (by omega)) (fun r hr => ⟨hr.1, FM_t (FM_w FM_r (by decide)) hr.2⟩)
      by_cases e : j = a
      · rw [e, pd_w_self]
      · rw [pd_w_nk e]
        exact hc j (by omega)
theorem c57 {d : Nat} (hw : 4294967296 < w) (hd : d ≤ 160) (h0 : ∀ j, d ≤ j → s j = 0) (hW : xR s d []) (hJ : JM b v) (hD : DR d s v) : ∀ (f j : Nat) (u : pd_V), CS v u → j ≤ 9 → 9 - j < f → Sf (d_Mo_compile_57 w f (Int32.ofNat j) u) (fun r => JM b r.2 ∧ FM v r.2) := by
  intro f
  induction f with
  | zero => intro j u _ _ h; exact absurd h (Nat.not_lt_zero _)
  | succ f ih =>
    intro j u hu hj hf
    rw [d_Mo_compile_57, show (9 : Int32) = Int32.ofNat 9 from rfl, le_nat (by omega) (by omega)]
    have hu2 : ∀ y, CS v (pd_w u 198 7 y) := fun y => CS_k hu (Or.inr rfl)
    refine sf_d (fun c => ?_) (fun c => ?_)
    · refine sf_d (fun _ => ?_) (fun _ => ?_)
      · have J2 := JM_C hJ (hu2 (u 198 10))
        exact sf_mono (c123 hd h0 hW w 0 _ (DR_C hD (hu2 _)) (Nat.zero_le _) (fun j hj => by omega) J2.2.1 J2.2.2.1 J2.2.2.2.2.2 (by omega)) (fun r hr => ⟨hr.1, FM_t (FM_C (hu2 _)) hr.2⟩)
      · exact sf_mono (c95 hJ w 0 _ (hu2 _) (by omega) (by omega)) (fun r hr => ⟨JM_C hJ hr, FM_C hr⟩)
    · rw [ofN1]
      have h10 : CS v (pd_w u 198 10 (-1 : Int32)) := CS_k hu (Or.inl rfl)
      refine sf_bind (lk_t hw hd h0 hW (DR_C hD h10)) (fun q3 h3 => ?_)
      exact ih (j + 1) q3 (CS_t h10 (CS_L h3)) (by omega) (by omega)
theorem c24 {d : Nat} (hw : 4294967296 < w) (hd : d ≤ 160) (h0 : ∀ j, d ≤ j → s j = 0) (hW : xR s d []) (hJ : JM b v) (hD : DR d s v) : ∀ (f j : Nat) (u : pd_V), CS v u → j ≤ 8 → 8 - j < f → Sf (d_Mo_compile_24 w f (Int32.ofNat j) u) (fun r => JM b r.2 ∧ FM v r.2) := by
  intro f
  induction f with
  | zero => intro j u _ _ h; exact absurd h (Nat.not_lt_zero _)
  | succ f ih =>
    intro j u hu hj hf
    rw [d_Mo_compile_24, decide_eq_decide.mpr (lane8 hj)]
    refine sf_d (fun c => ?_) (fun c => ?_)
    · exact c57 hw hd h0 hW hJ hD w 0 u hu (by omega) (by omega)
    · have i8 : pm_in (Int32.ofNat j) 8 = true := in_nat (by omega) (by omega)
      have hb := (hu.2.2 ⟨hJ.2.1, hJ.2.2.1⟩).1 j (by omega)
      rw [ofN1, cl_nat (by omega)]
      exact sf_c i8 (sf_c i8 (sf_c (b01 hb) (sf_c i8 (ih (j + 1) _ (CS_1 (CS_2 hu (fun _ => hb)) (fun _ => Or.inl rfl)) (by omega) (by omega)))))
theorem FM_P (h : MP v q) : FM v q := ⟨fun a ha => h.1 a (by omega) (by omega) (by omega), h.2 2 (by decide)⟩
theorem JM_P (h : JM b v) (e : MP v q) : JM b q := JM_e h (fun a ha => e.1 a (by omega) (by omega) (by omega)) (fun k hk => e.2 k (by omega))
theorem cm_t (hw : 4294967296 < w) (hJ : JM b v) : Sf (d_Mo_compile w v) (fun r => JM b r.2 ∧ FM v r.2) := by
  obtain ⟨d, hd, h2⟩ := hJ.1
  have h0 : ∀ j, d ≤ j → (fun j => if j < d then v 199 j else 0) j = (0 : Int32) := fun j hj => if_neg (by omega)
  have J1 : JM b (pd_w v 198 0 (0 : Int32)) := JM_e hJ (fun a ha => pd_wa (by omega)) (fun k hk => pd_w_nk (by omega))
  have D1 : DR d (fun j => if j < d then v 199 j else 0) (pd_w v 198 0 (0 : Int32)) := ⟨by rw [pd_w_nk (by decide)]; exact h2, fun j hj => by rw [pd_w_ne (by decide)]; exact (if_pos hj).symm⟩
  have F1 : FM v (pd_w v 198 0 (0 : Int32)) := FM_k FM_r (by decide)
  unfold d_Mo_compile
  refine sf_bind (it_t hw hd h0 D1) (fun r hr => ?_)
  have J2 := JM_P J1 hr.2
  have F2 := FM_t F1 (FM_P hr.2)
  refine sf_n (fun c => ?_) (fun _ => ?_)
  · exact sf_mono (c24 hw hd h0 (hr.1 c) J2 (DR_P D1 hr.2) w 0 r.2 CS_r (by omega) (by omega)) (fun q hq => ⟨hq.1, FM_t F2 hq.2⟩)
  · exact sf_some ⟨JM_k J2 (by decide), FM_k F2 (by decide)⟩
/-! start and run -/
theorem JM_S (h : JM b v) (e : MS v q) : JM b q := JM_e h (fun a ha => e.1 a (by omega)) (fun k hk => e.2 k (by omega) (by omega) (by omega))
theorem FM_S (h : MS v q) : FM v q := ⟨fun a ha => h.1 a (Or.inl ha), h.2 2 (by decide) (by decide) (by decide)⟩
theorem st_t (hw : 4294967296 < w) (hb : 0 ≤ b ∧ b ≤ 900000) (hJ : JM b v) : Sf (d_Mo_start w v) (fun q => JM b q ∧ FM v q) := by
  unfold d_Mo_start
  refine sf_n (fun c5 => ?_) (fun _ => ?_)
  · rw [thr_0]
    refine sf_sb ?_
    refine sf_d (fun _ => ?_) (fun c => absurd rfl c)
    have e5 : ∀ (y z : Int32), pd_w (pd_w (pd_w (pd_w v 198 0 (0 : Int32)) 198 20 (1 : Int32)) 198 21 y) 198 22 z 198 5 = v 198 5 := fun y z => by rw [pd_w_nk (by decide), pd_w_nk (by decide), pd_w_nk (by decide), pd_w_nk (by decide)]
    obtain ⟨h1, h2, h3, h4, h5, h6⟩ := hJ
    obtain ⟨n, s, g1, g2, g3, g4, g5⟩ := h4 c5
    have T : ∀ y z, TX n s (pd_w (pd_w (pd_w (pd_w v 198 0 (0 : Int32)) 198 20 (1 : Int32)) 198 21 y) 198 22 z) := fun y z => ⟨by rw [pd_w_nk (by decide), pd_w_nk (by decide), pd_w_nk (by decide), pd_w_nk (by decide)]; exact g4, fun j hj => by rw [pd_w_ne (by decide), pd_w_ne (by decide), pd_w_ne (by decide), pd_w_ne (by decide)]; exact g5 j hj⟩
    have J1 : ∀ y, JM b (pd_w (pd_w (pd_w (pd_w v 198 0 (0 : Int32)) 198 20 (1 : Int32)) 198 21 y) 198 22 (0 : Int32)) := fun y => by
      refine ⟨?_, fun j hj => ?_, fun j hj => ?_, fun _ => ⟨n, s, g1, g2, g3, T y 0⟩, fun _ => ?_, ?_⟩
      · rw [pd_w_nk (by decide), pd_w_nk (by decide), pd_w_nk (by decide), pd_w_nk (by decide)]; exact h1
      · rw [pd_w_ne (by decide), pd_w_ne (by decide), pd_w_ne (by decide), pd_w_ne (by decide)]; exact h2 j hj
      · rw [pd_w_ne (by decide), pd_w_ne (by decide), pd_w_ne (by decide), pd_w_ne (by decide)]; exact h3 j hj
      · rw [e5]; exact c5
      · rw [pd_w_self, sI_0]; omega
    refine sf_bind (ag_t hw g1 g2 g3 (T _ _) (by rw [pd_w_self, sI_0]; omega) (by rw [pd_w_self, sI_0]; omega)) (fun q4 h4 => ?_)
    exact sf_some ⟨JM_S (J1 _) h4, FM_t (FM_k (FM_k (FM_k (FM_k FM_r (by decide)) (by decide)) (by decide)) (by decide)) (FM_S h4)⟩
  · rw [thr_1]
    refine sf_sb ?_
    refine sf_d (fun c => absurd (show (1 : Int32) = 0 from c) (by decide)) (fun _ => sf_some ⟨JM_k hJ (by decide), FM_k FM_r (by decide)⟩)
theorem ru_t {y : Int32} (hw : 4294967296 < w) (hb : 0 ≤ b ∧ b + 500 ≤ 900000) (hJ : JM b v) : Sf (d_Mo_run w y v) (fun r => JM (b + 500) r.2 ∧ FM v r.2) := by
  have up : ∀ u, JM b u → JM (b + 500) u := fun u h => ⟨h.1, h.2.1, h.2.2.1, h.2.2.2.1, h.2.2.2.2.1, h.2.2.2.2.2.1, by have := h.2.2.2.2.2.2; omega⟩
  have F0 : ∀ k : Int32, FM v (pd_w v 198 0 k) := fun k => FM_k FM_r (by decide)
  have J0 : ∀ k : Int32, JM b (pd_w v 198 0 k) := fun k => JM_k hJ (by decide)
  unfold d_Mo_run
  refine sf_n (fun c20 => ?_) (fun c20 => ?_)
  · refine sf_d (fun c => absurd c c20) (fun _ => ?_)
    refine sf_d (fun cb => ?_) (fun _ => ?_)
    · have b2 := bey0 cb
      have z1 := sI_1
      have z5 : (500 : Int32).toInt = 500 := by decide
      rw [thr_0]
      refine sf_sb ?_
      refine sf_d (fun _ => ?_) (fun c => absurd rfl c)
      refine sf_n (fun _ => ?_) (fun _ => sf_some ⟨up _ (J0 0), F0 0⟩)
      obtain ⟨h1, h2, h3, h4, h5, h6⟩ := J0 0
      have e20 : pd_w v 198 0 (0 : Int32) 198 20 = v 198 20 := pd_w_nk (by decide)
      obtain ⟨n, s, g1, g2, g3, g4, g5⟩ := h4 (h5 (by rw [e20]; exact c20))
      have ef : (pd_w v 198 0 (0 : Int32) 198 22 + y).toInt = (pd_w v 198 0 (0 : Int32) 198 22).toInt + y.toInt := sI_add (by omega)
      have T : TX n s (pd_w (pd_w v 198 0 (0 : Int32)) 198 22 (pd_w v 198 0 (0 : Int32) 198 22 + y)) := ⟨by rw [pd_w_nk (by decide)]; exact g4, fun j hj => by rw [pd_w_ne (by decide)]; exact g5 j hj⟩
      have J1 : JM (b + 500) (pd_w (pd_w v 198 0 (0 : Int32)) 198 22 (pd_w v 198 0 (0 : Int32) 198 22 + y)) := by
        refine ⟨?_, fun j hj => ?_, fun j hj => ?_, fun _ => ⟨n, s, g1, g2, g3, T⟩, fun c2 => ?_, ?_⟩
        · rw [pd_w_nk (by decide)]; exact h1
        · rw [pd_w_ne (by decide)]; exact h2 j hj
        · rw [pd_w_ne (by decide)]; exact h3 j hj
        · rw [pd_w_nk (by decide)] at c2 ⊢; exact h5 c2
        · rw [pd_w_self, ef]; omega
      refine sf_bind (ag_t hw g1 g2 g3 T (by rw [pd_w_self, ef]; omega) (by rw [pd_w_self, ef]; omega)) (fun q4 h4 => ?_)
      exact sf_some ⟨JM_S J1 h4, FM_t (FM_k (F0 0) (by decide)) (FM_S h4)⟩
    · rw [thr_2]
      refine sf_sb ?_
      exact sf_d (fun c => absurd (show (1 : Int32) = 0 from c) (by decide)) (fun _ => sf_some ⟨up _ (J0 2), F0 2⟩)
  · rw [show decide (v 198 20 = 0) = true from decide_eq_true c20]
    refine sf_tt ?_
    rw [thr_1]
    refine sf_sb ?_
    exact sf_d (fun c => absurd (show (1 : Int32) = 0 from c) (by decide)) (fun _ => sf_some ⟨up _ (J0 1), F0 1⟩)
end CM
