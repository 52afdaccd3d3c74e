theorem pm_fit_int {z b : Nat} : ∀ v : Value, pm_fit 0 v = true → narrow .int (pm_v z b v) = pm_v z b v ∧ fits .int (pm_v z b v) = true := by
  intro v h
  cases v <;> first | exact ⟨rfl, rfl⟩ | exact nomatch (show false = true from h)
theorem pm_fit_bool {z b : Nat} : ∀ v : Value, pm_fit 1 v = true → narrow .boolean (pm_v z b v) = pm_v z b v ∧ fits .boolean (pm_v z b v) = true := by
  intro v h
  cases v <;> try exact nomatch (show false = true from h)
  rename_i x
  have h1 : (x == 0 || x == 1) = true := h
  rw [Bool.or_eq_true, beq_iff_eq, beq_iff_eq] at h1
  rcases h1 with rfl | rfl
  · exact ⟨show narrow .boolean (.int 0) = .int 0 by decide +kernel, show fits .boolean (.int 0) = true by decide +kernel⟩
  · exact ⟨show narrow .boolean (.int 1) = .int 1 by decide +kernel, show fits .boolean (.int 1) = true by decide +kernel⟩
theorem pm_fit_obj {z b : Nat} {C : String} : ∀ v : Value, pm_fit 2 v = true → narrow (.object C) (pm_v z b v) = pm_v z b v ∧ fits (.object C) (pm_v z b v) = true := by
  intro v h
  cases v <;> first | exact ⟨rfl, rfl⟩ | exact nomatch (show false = true from h)
theorem pm_fit_arr {z b : Nat} {t : FieldType} : ∀ v : Value, pm_fit 2 v = true → narrow (.array t) (pm_v z b v) = pm_v z b v ∧ fits (.array t) (pm_v z b v) = true := by
  intro v h
  cases v <;> first | exact ⟨rfl, rfl⟩ | exact nomatch (show false = true from h)
theorem pm_fit_long {z b : Nat} : ∀ v : Value, pm_fit 3 v = true → narrow .long (pm_v z b v) = pm_v z b v ∧ fits .long (pm_v z b v) = true := by
  intro v h
  cases v <;> first | exact ⟨rfl, rfl⟩ | exact nomatch (show false = true from h)
/-- where the next cell comes, while no exception has been made -/
theorem pm_size {D : va_G} {cl : List vw_C} {z b : Nat} {aC : Nat → ClassId} {n kc ks k0 n0 cells : Nat} {μ : Nat → pm_E} {H : Heap} {hs : Nat} (hq : pm_Q D cl z b aC (n, kc, ks, μ) H) (hz : z ≤ hs ∧ n0 ≤ k0 ∧ (n0 = k0 → hs = z + n0)) (h1 : hs ≤ H.size) (h2 : H.size ≤ hs + cells) (hk : k0 + cells = kc) (hn : n + k0 ≤ n0 + kc) (hd : n = kc) : H.size = z + n := by
  obtain ⟨hz1, hz2, hz3⟩ := hz
  have e0 : n0 = k0 := by omega
  have e1 := hz3 e0
  have up : H.size ≤ z + n := by omega
  rcases Nat.eq_zero_or_pos n with h0 | h0
  · omega
  · have h5 := pm_w_get (z := z) (b := b) (aC := aC) (h := (n, kc, ks, μ)) (k := n - 1) (show n - 1 < n by omega)
    have h6 := (hq.1 (n - 1) _ h5).lt
    have h7 : z + (n - 1) < H.size := h6
    omega
section PH
variable {p : Program} {l : Launch} {e : Env} {R : Room} {s : State} {m : MethodId} {args : Array Value} {below : List Frame} {meth : Method} {c : Code} {cc : ByteArray} {D : va_G} {cl : List vw_C} {tys : List (ClassId × FieldType)} {z b : Nat} {aC : Nat → ClassId} {k0 s0 n0 pc : Nat}
theorem ps_get (hx : p.tables.exec = Jvm.exec) (hb : c.code = cc) {own ref C : String} {T : u_T} {N ci index : Nat} {Ts : List Cond} (hts : ∀ w ∈ Ts, w.before args s = true) (hin : ∀ w ∈ u_ws C T N, w ∈ Ts) (hown : s.vm.findClass own = some m.cls) (hK : va_K D cl tys s) (hc : cl[ci]? = some (C, T, N)) (k : Nat) (hk9 : k < N) (hlink : (Cond.fieldLink own index ref (T k).2.1 (T k).2.2.1).before args s = true) (hsame : ∀ x, s.fieldFound? (T k).1 (T k).2.1 (T k).2.2.1 = some x → s.fieldFound? ref (T k).2.1 (T k).2.2.1 = some x) (hd : decode cc pc = .ok (.getfield index, 3)) : pm_G p l e R s m args below meth c D cl z b aC k0 s0 n0 (pg_get ci k) pc := by
  intro S S' hpc h
  obtain ⟨pc', ls, st, n9, kc, ks, μ⟩ := S
  have hpc : pc' = pc := hpc
  subst hpc
  rcases st with _ | ⟨v, st⟩
  · exact nomatch (show (none : Option pm_S) = some S' from h)
  cases v <;> try exact nomatch (show (none : Option pm_S) = some S' from h)
  rename_i a
  unfold pg_get at h
  dsimp only at h
  generalize hw : μ a = q at h
  rcases q with q | ⟨cj, fs⟩
  · exact nomatch (show (none : Option pm_S) = some S' from h)
  dsimp only at h
  generalize hv : fs[k]? = o at h
  rcases o with _ | v
  · cases hc9 : Nat.beq cj ci <;> rw [hc9] at h <;> exact nomatch (show (none : Option pm_S) = some S' from h)
  replace h := pm_bif (show (bif Nat.beq cj ci then some (pc' + 3, ls, v :: st, n9, kc, ks, μ) else none) = some S' from h)
  obtain ⟨hok, h⟩ := h
  have hci : cj = ci := Nat.eq_of_beq_eq_true hok
  subst hci
  subst h
  intro _ _ Q kk H locs LS cells slots hl hq hS hk hs hn
  obtain ⟨h1, h2, h3⟩ := hq.alive (a := a) (by show pm_al (μ a) = true; rw [hw]; rfl)
  rw [show (n9, kc, ks, μ).2.2.2 a = .inr (cj, fs) from hw] at h3
  show W p l e R s m args below meth c H locs cells slots Q (F0 m pc' LS (.ref (pm_t z b a) :: st.map (pm_v z b)))
  rw [h2]
  exact va_get hx hb hts hin hown hK hq.1 a h3 hc k hk9 hlink hsame (by rw [List.getElem?_map, hv]; rfl) hd (kk H locs LS cells slots hl hq hS hk hs hn)
theorem ps_getN (hx : p.tables.exec = Jvm.exec) (hb : c.code = cc) {own ref C host : String} {T : u_T} {N ci index : Nat} {Ts : List Cond} (hts : ∀ w ∈ Ts, w.before args s = true) (hin : ∀ w ∈ u_ws C T N, w ∈ Ts) (hown : s.vm.findClass own = some m.cls) (hK : va_K D cl tys s) (hc : cl[ci]? = some (C, T, N)) (k : Nat) (hk9 : k < N) (hlink : (Cond.fieldLinkNest own index ref (T k).2.1 (T k).2.2.1 host).before args s = true) (hsame : ∀ x, s.fieldFound? (T k).1 (T k).2.1 (T k).2.2.1 = some x → s.fieldFound? ref (T k).2.1 (T k).2.2.1 = some x) (hd : decode cc pc = .ok (.getfield index, 3)) : pm_G p l e R s m args below meth c D cl z b aC k0 s0 n0 (pg_get ci k) pc := by
  intro S S' hpc h
  obtain ⟨pc', ls, st, n9, kc, ks, μ⟩ := S
  have hpc : pc' = pc := hpc
  subst hpc
  rcases st with _ | ⟨v, st⟩
  · exact nomatch (show (none : Option pm_S) = some S' from h)
  cases v <;> try exact nomatch (show (none : Option pm_S) = some S' from h)
  rename_i a
  unfold pg_get at h
  dsimp only at h
  generalize hw : μ a = q at h
  rcases q with q | ⟨cj, fs⟩
  · exact nomatch (show (none : Option pm_S) = some S' from h)
  dsimp only at h
  generalize hv : fs[k]? = o at h
  rcases o with _ | v
  · cases hc9 : Nat.beq cj ci <;> rw [hc9] at h <;> exact nomatch (show (none : Option pm_S) = some S' from h)
  replace h := pm_bif (show (bif Nat.beq cj ci then some (pc' + 3, ls, v :: st, n9, kc, ks, μ) else none) = some S' from h)
  obtain ⟨hok, h⟩ := h
  have hci : cj = ci := Nat.eq_of_beq_eq_true hok
  subst hci
  subst h
  intro _ _ Q kk H locs LS cells slots hl hq hS hk hs hn
  obtain ⟨h1, h2, h3⟩ := hq.alive (a := a) (by show pm_al (μ a) = true; rw [hw]; rfl)
  rw [show (n9, kc, ks, μ).2.2.2 a = .inr (cj, fs) from hw] at h3
  show W p l e R s m args below meth c H locs cells slots Q (F0 m pc' LS (.ref (pm_t z b a) :: st.map (pm_v z b)))
  rw [h2]
  exact va_getN hx hb hts hin hown hK hq.1 a h3 hc k hk9 hlink hsame (by rw [List.getElem?_map, hv]; rfl) hd (kk H locs LS cells slots hl hq hS hk hs hn)
theorem ps_put (hx : p.tables.exec = Jvm.exec) (hb : c.code = cc) {own ref C : String} {T : u_T} {N ci index ty : Nat} {Ts : List Cond} (hts : ∀ w ∈ Ts, w.before args s = true) (hin : ∀ w ∈ u_ws C T N, w ∈ Ts) (ty0 : Nat → FieldType) (hty : ∀ k, k < N → parseFieldDescriptor (T k).2.2.1 = some (ty0 k)) (hnm : ∀ a, a < N → ∀ b, b < N → a ≠ b → (T a).2.1 ≠ (T b).2.1) (hown : s.vm.findClass own = some m.cls) (hK : va_K D cl tys s) (hc : cl[ci]? = some (C, T, N)) (k : Nat) (hk9 : k < N) (hlink : (Cond.fieldLink own index ref (T k).2.1 (T k).2.2.1).before args s = true) (hsame : ∀ x, s.fieldFound? (T k).1 (T k).2.1 (T k).2.2.1 = some x → s.fieldFound? ref (T k).2.1 (T k).2.2.1 = some x) (hfin : (T k).2.2.2 = false) (hft : ∀ v : Value, pm_fit ty v = true → narrow (ty0 k) (pm_v z b v) = pm_v z b v ∧ fits (ty0 k) (pm_v z b v) = true) (hd : decode cc pc = .ok (.putfield index, 3)) : pm_G p l e R s m args below meth c D cl z b aC k0 s0 n0 (pg_put ci k ty) pc := by
  intro S S' hpc h
  obtain ⟨pc', ls, st, n9, kc, ks, μ⟩ := S
  have hpc : pc' = pc := hpc
  subst hpc
  rcases st with _ | ⟨va, st⟩
  · exact nomatch (show (none : Option pm_S) = some S' from h)
  rcases st with _ | ⟨v, st⟩
  · exact nomatch (show (none : Option pm_S) = some S' from h)
  cases v <;> try exact nomatch (show (none : Option pm_S) = some S' from h)
  rename_i a
  unfold pg_put at h
  dsimp only at h
  generalize hw : μ a = q at h
  rcases q with q | ⟨cj, fs⟩
  · exact nomatch (show (none : Option pm_S) = some S' from h)
  replace h := pm_bif (show (bif Nat.beq cj ci && (Nat.blt k fs.length && pm_fit ty va) then some (pc' + 3, ls, st, n9, kc, ks, va_up μ a (.inr (cj, fs.set k va))) else none) = some S' from h)
  obtain ⟨hok, h⟩ := h
  rw [Bool.and_eq_true, Bool.and_eq_true, Nat.blt_eq] at hok
  obtain ⟨hci, hlen, hfit⟩ := hok
  have hci : cj = ci := Nat.eq_of_beq_eq_true hci
  subst hci
  subst h
  intro _ _ Q kk H locs LS cells slots hl hq hS hk hs hn
  obtain ⟨h1, h2, h3⟩ := hq.alive (a := a) (by show pm_al (μ a) = true; rw [hw]; rfl)
  rw [show (n9, kc, ks, μ).2.2.2 a = .inr (cj, fs) from hw] at h3
  show W p l e R s m args below meth c H locs cells slots Q (F0 m pc' LS (pm_v z b va :: .ref (pm_t z b a) :: st.map (pm_v z b)))
  rw [h2]
  refine va_put hx hb hts hin ty0 hty hnm hown hK hq.1 pm_w_D hS a h3 hc k hk9 hlink hsame hfin (hty k hk9) (hft va hfit).1 (hft va hfit).2 (by rw [List.length_map]; exact hlen) hd (fun H1 locs1 hP1 _ hS1 => kk H1 locs1 LS cells slots hl (hq.put h1 ?_) hS1 hk hs hn)
  rw [← List.map_set] at hP1
  exact hP1
theorem ps_putN (hx : p.tables.exec = Jvm.exec) (hb : c.code = cc) {own ref C host : String} {T : u_T} {N ci index ty : Nat} {Ts : List Cond} (hts : ∀ w ∈ Ts, w.before args s = true) (hin : ∀ w ∈ u_ws C T N, w ∈ Ts) (ty0 : Nat → FieldType) (hty : ∀ k, k < N → parseFieldDescriptor (T k).2.2.1 = some (ty0 k)) (hnm : ∀ a, a < N → ∀ b, b < N → a ≠ b → (T a).2.1 ≠ (T b).2.1) (hown : s.vm.findClass own = some m.cls) (hK : va_K D cl tys s) (hc : cl[ci]? = some (C, T, N)) (k : Nat) (hk9 : k < N) (hlink : (Cond.fieldLinkNest own index ref (T k).2.1 (T k).2.2.1 host).before args s = true) (hsame : ∀ x, s.fieldFound? (T k).1 (T k).2.1 (T k).2.2.1 = some x → s.fieldFound? ref (T k).2.1 (T k).2.2.1 = some x) (hfin : (T k).2.2.2 = false) (hft : ∀ v : Value, pm_fit ty v = true → narrow (ty0 k) (pm_v z b v) = pm_v z b v ∧ fits (ty0 k) (pm_v z b v) = true) (hd : decode cc pc = .ok (.putfield index, 3)) : pm_G p l e R s m args below meth c D cl z b aC k0 s0 n0 (pg_put ci k ty) pc := by
  intro S S' hpc h
  obtain ⟨pc', ls, st, n9, kc, ks, μ⟩ := S
  have hpc : pc' = pc := hpc
  subst hpc
  rcases st with _ | ⟨va, st⟩
  · exact nomatch (show (none : Option pm_S) = some S' from h)
  rcases st with _ | ⟨v, st⟩
  · exact nomatch (show (none : Option pm_S) = some S' from h)
  cases v <;> try exact nomatch (show (none : Option pm_S) = some S' from h)
  rename_i a
  unfold pg_put at h
  dsimp only at h
  generalize hw : μ a = q at h
  rcases q with q | ⟨cj, fs⟩
  · exact nomatch (show (none : Option pm_S) = some S' from h)
  replace h := pm_bif (show (bif Nat.beq cj ci && (Nat.blt k fs.length && pm_fit ty va) then some (pc' + 3, ls, st, n9, kc, ks, va_up μ a (.inr (cj, fs.set k va))) else none) = some S' from h)
  obtain ⟨hok, h⟩ := h
  rw [Bool.and_eq_true, Bool.and_eq_true, Nat.blt_eq] at hok
  obtain ⟨hci, hlen, hfit⟩ := hok
  have hci : cj = ci := Nat.eq_of_beq_eq_true hci
  subst hci
  subst h
  intro _ _ Q kk H locs LS cells slots hl hq hS hk hs hn
  obtain ⟨h1, h2, h3⟩ := hq.alive (a := a) (by show pm_al (μ a) = true; rw [hw]; rfl)
  rw [show (n9, kc, ks, μ).2.2.2 a = .inr (cj, fs) from hw] at h3
  show W p l e R s m args below meth c H locs cells slots Q (F0 m pc' LS (pm_v z b va :: .ref (pm_t z b a) :: st.map (pm_v z b)))
  rw [h2]
  refine va_putN hx hb hts hin ty0 hty hnm hown hK hq.1 pm_w_D hS a h3 hc k hk9 hlink hsame hfin (hty k hk9) (hft va hfit).1 (hft va hfit).2 (by rw [List.length_map]; exact hlen) hd (fun H1 locs1 hP1 _ hS1 => kk H1 locs1 LS cells slots hl (hq.put h1 ?_) hS1 hk hs hn)
  rw [← List.map_set] at hP1
  exact hP1
theorem ps_putF (hx : p.tables.exec = Jvm.exec) (hb : c.code = cc) {own ref C : String} {T : u_T} {N ci index ty : Nat} {Ts : List Cond} (hts : ∀ w ∈ Ts, w.before args s = true) (hin : ∀ w ∈ u_ws C T N, w ∈ Ts) (ty0 : Nat → FieldType) (hty : ∀ k, k < N → parseFieldDescriptor (T k).2.2.1 = some (ty0 k)) (hnm : ∀ a, a < N → ∀ b, b < N → a ≠ b → (T a).2.1 ≠ (T b).2.1) (hown : s.vm.findClass own = some m.cls) (hK : va_K D cl tys s) (hc : cl[ci]? = some (C, T, N)) (k : Nat) (hk9 : k < N) (hlink : (Cond.fieldLink own index ref (T k).2.1 (T k).2.2.1).before args s = true) (hsame : ∀ x, s.fieldFound? (T k).1 (T k).2.1 (T k).2.2.1 = some x → s.fieldFound? ref (T k).2.1 (T k).2.2.1 = some x) (hfin : (T k).2.2.2 = true) (hin2 : meth.name = "<init>") (hdecl : (T k).1 = own) (hft : ∀ v : Value, pm_fit ty v = true → narrow (ty0 k) (pm_v z b v) = pm_v z b v ∧ fits (ty0 k) (pm_v z b v) = true) (hd : decode cc pc = .ok (.putfield index, 3)) : pm_G p l e R s m args below meth c D cl z b aC k0 s0 n0 (pg_put ci k ty) pc := by
  intro S S' hpc h
  obtain ⟨pc', ls, st, n9, kc, ks, μ⟩ := S
  have hpc : pc' = pc := hpc
  subst hpc
  rcases st with _ | ⟨va, st⟩
  · exact nomatch (show (none : Option pm_S) = some S' from h)
  rcases st with _ | ⟨v, st⟩
  · exact nomatch (show (none : Option pm_S) = some S' from h)
  cases v <;> try exact nomatch (show (none : Option pm_S) = some S' from h)
  rename_i a
  unfold pg_put at h
  dsimp only at h
  generalize hw : μ a = q at h
  rcases q with q | ⟨cj, fs⟩
  · exact nomatch (show (none : Option pm_S) = some S' from h)
  replace h := pm_bif (show (bif Nat.beq cj ci && (Nat.blt k fs.length && pm_fit ty va) then some (pc' + 3, ls, st, n9, kc, ks, va_up μ a (.inr (cj, fs.set k va))) else none) = some S' from h)
  obtain ⟨hok, h⟩ := h
  rw [Bool.and_eq_true, Bool.and_eq_true, Nat.blt_eq] at hok
  obtain ⟨hci, hlen, hfit⟩ := hok
  have hci : cj = ci := Nat.eq_of_beq_eq_true hci
  subst hci
  subst h
  intro _ _ Q kk H locs LS cells slots hl hq hS hk hs hn
  obtain ⟨h1, h2, h3⟩ := hq.alive (a := a) (by show pm_al (μ a) = true; rw [hw]; rfl)
  rw [show (n9, kc, ks, μ).2.2.2 a = .inr (cj, fs) from hw] at h3
  show W p l e R s m args below meth c H locs cells slots Q (F0 m pc' LS (pm_v z b va :: .ref (pm_t z b a) :: st.map (pm_v z b)))
  rw [h2]
  refine va_putF hx hb hts hin ty0 hty hnm hown hK hq.1 pm_w_D hS a h3 hc k hk9 hlink hsame hfin hin2 hdecl (hty k hk9) (hft va hfit).1 (hft va hfit).2 (by rw [List.length_map]; exact hlen) hd (fun H1 locs1 hP1 _ hS1 => kk H1 locs1 LS cells slots hl (hq.put h1 ?_) hS1 hk hs hn)
  rw [← List.map_set] at hP1
  exact hP1
theorem ps_iald (hx : p.tables.exec = Jvm.exec) (hb : c.code = cc) (hK : va_K D cl tys s) (t0 : Nat) (ht : tys[t0]? = some (aC 0, .int)) (hd : decode cc pc = .ok (.iaload, 1)) : pm_G p l e R s m args below meth c D cl z b aC k0 s0 n0 pg_iald pc := by
  intro S S' hpc h
  obtain ⟨pc', ls, st, n9, kc, ks, μ⟩ := S
  have hpc : pc' = pc := hpc
  subst hpc
  rcases st with _ | ⟨v, st⟩
  · exact nomatch (show (none : Option pm_S) = some S' from h)
  cases v <;> try exact nomatch (show (none : Option pm_S) = some S' from h)
  rename_i i
  rcases st with _ | ⟨v, st⟩
  · exact nomatch (show (none : Option pm_S) = some S' from h)
  cases v <;> try exact nomatch (show (none : Option pm_S) = some S' from h)
  rename_i a
  unfold pg_iald at h
  dsimp only at h
  generalize hw : μ a = q at h
  split at h
  rotate_left
  · exact nomatch (show (none : Option pm_S) = some S' from h)
  rename_i n f
  replace h := pm_bif (show (bif pm_in i n then some (pc' + 1, ls, .int (f i.toNatClampNeg) :: st, n9, kc, ks, μ) else none) = some S' from h)
  obtain ⟨hok, h⟩ := h
  subst h
  intro _ _ Q k H locs LS cells slots hl hq hS hk hs hn
  obtain ⟨h1, h2, h3⟩ := hq.alive (a := a) (by show pm_al (μ a) = true; rw [hw]; rfl)
  rw [show (n9, kc, ks, μ).2.2.2 a = .inl (0, n, .inl f) from hw] at h3
  show W p l e R s m args below meth c H locs cells slots Q (F0 m pc' LS (.int i :: .ref (pm_t z b a) :: st.map (pm_v z b)))
  rw [h2]
  exact va_iald hx hb hK hq.1 a t0 h3 ht (pm_in_vp hok) hd (k H locs LS cells slots hl hq hS hk hs hn)
theorem ps_iast (hx : p.tables.exec = Jvm.exec) (hb : c.code = cc) (hK : va_K D cl tys s) (t0 : Nat) (ht : tys[t0]? = some (aC 0, .int)) (hd : decode cc pc = .ok (.iastore, 1)) : pm_G p l e R s m args below meth c D cl z b aC k0 s0 n0 pg_iast pc := by
  intro S S' hpc h
  obtain ⟨pc', ls, st, n9, kc, ks, μ⟩ := S
  have hpc : pc' = pc := hpc
  subst hpc
  rcases st with _ | ⟨v, st⟩
  · exact nomatch (show (none : Option pm_S) = some S' from h)
  cases v <;> try exact nomatch (show (none : Option pm_S) = some S' from h)
  rename_i x
  rcases st with _ | ⟨v, st⟩
  · exact nomatch (show (none : Option pm_S) = some S' from h)
  cases v <;> try exact nomatch (show (none : Option pm_S) = some S' from h)
  rename_i i
  rcases st with _ | ⟨v, st⟩
  · exact nomatch (show (none : Option pm_S) = some S' from h)
  cases v <;> try exact nomatch (show (none : Option pm_S) = some S' from h)
  rename_i a
  unfold pg_iast at h
  dsimp only at h
  generalize hw : μ a = q at h
  split at h
  rotate_left
  · exact nomatch (show (none : Option pm_S) = some S' from h)
  rename_i n f
  replace h := pm_bif (show (bif pm_in i n then some (pc' + 1, ls, st, n9, kc, ks, va_up μ a (.inl (0, n, .inl (upd f i.toNatClampNeg x)))) else none) = some S' from h)
  obtain ⟨hok, h⟩ := h
  subst h
  intro _ _ Q k H locs LS cells slots hl hq hS hk hs hn
  obtain ⟨h1, h2, h3⟩ := hq.alive (a := a) (by show pm_al (μ a) = true; rw [hw]; rfl)
  rw [show (n9, kc, ks, μ).2.2.2 a = .inl (0, n, .inl f) from hw] at h3
  show W p l e R s m args below meth c H locs cells slots Q (F0 m pc' LS (.int x :: .int i :: .ref (pm_t z b a) :: st.map (pm_v z b)))
  rw [h2]
  exact va_iast hx hb hK hq.1 pm_w_D hS a t0 h3 ht (pm_in_vp hok) hd (fun H1 locs1 hP1 _ hS1 => k H1 locs1 LS cells slots hl (hq.put h1 hP1) hS1 hk hs hn)
theorem ps_lald (hx : p.tables.exec = Jvm.exec) (hb : c.code = cc) (hK : va_K D cl tys s) (t0 : Nat) (ht : tys[t0]? = some (aC 1, .long)) (hd : decode cc pc = .ok (.laload, 1)) : pm_G p l e R s m args below meth c D cl z b aC k0 s0 n0 pg_lald pc := by
  intro S S' hpc h
  obtain ⟨pc', ls, st, n9, kc, ks, μ⟩ := S
  have hpc : pc' = pc := hpc
  subst hpc
  rcases st with _ | ⟨v, st⟩
  · exact nomatch (show (none : Option pm_S) = some S' from h)
  cases v <;> try exact nomatch (show (none : Option pm_S) = some S' from h)
  rename_i i
  rcases st with _ | ⟨v, st⟩
  · exact nomatch (show (none : Option pm_S) = some S' from h)
  cases v <;> try exact nomatch (show (none : Option pm_S) = some S' from h)
  rename_i a
  unfold pg_lald at h
  dsimp only at h
  generalize hw : μ a = q at h
  split at h
  rotate_left
  · exact nomatch (show (none : Option pm_S) = some S' from h)
  rename_i n f
  replace h := pm_bif (show (bif pm_in i n then some (pc' + 1, ls, .long (f i.toNatClampNeg) :: st, n9, kc, ks, μ) else none) = some S' from h)
  obtain ⟨hok, h⟩ := h
  subst h
  intro _ _ Q k H locs LS cells slots hl hq hS hk hs hn
  obtain ⟨h1, h2, h3⟩ := hq.alive (a := a) (by show pm_al (μ a) = true; rw [hw]; rfl)
  rw [show (n9, kc, ks, μ).2.2.2 a = .inl (1, n, .inr (.inl f)) from hw] at h3
  show W p l e R s m args below meth c H locs cells slots Q (F0 m pc' LS (.int i :: .ref (pm_t z b a) :: st.map (pm_v z b)))
  rw [h2]
  exact va_lald hx hb hK hq.1 a t0 h3 ht (pm_in_vp hok) hd (k H locs LS cells slots hl hq hS hk hs hn)
theorem ps_last (hx : p.tables.exec = Jvm.exec) (hb : c.code = cc) (hK : va_K D cl tys s) (t0 : Nat) (ht : tys[t0]? = some (aC 1, .long)) (hd : decode cc pc = .ok (.lastore, 1)) : pm_G p l e R s m args below meth c D cl z b aC k0 s0 n0 pg_last pc := by
  intro S S' hpc h
  obtain ⟨pc', ls, st, n9, kc, ks, μ⟩ := S
  have hpc : pc' = pc := hpc
  subst hpc
  rcases st with _ | ⟨v, st⟩
  · exact nomatch (show (none : Option pm_S) = some S' from h)
  cases v <;> try exact nomatch (show (none : Option pm_S) = some S' from h)
  rename_i x
  rcases st with _ | ⟨v, st⟩
  · exact nomatch (show (none : Option pm_S) = some S' from h)
  cases v <;> try exact nomatch (show (none : Option pm_S) = some S' from h)
  rename_i i
  rcases st with _ | ⟨v, st⟩
  · exact nomatch (show (none : Option pm_S) = some S' from h)
  cases v <;> try exact nomatch (show (none : Option pm_S) = some S' from h)
  rename_i a
  unfold pg_last at h
  dsimp only at h
  generalize hw : μ a = q at h
  split at h
  rotate_left
  · exact nomatch (show (none : Option pm_S) = some S' from h)
  rename_i n f
  replace h := pm_bif (show (bif pm_in i n then some (pc' + 1, ls, st, n9, kc, ks, va_up μ a (.inl (1, n, .inr (.inl (vp_updL f i.toNatClampNeg x))))) else none) = some S' from h)
  obtain ⟨hok, h⟩ := h
  subst h
  intro _ _ Q k H locs LS cells slots hl hq hS hk hs hn
  obtain ⟨h1, h2, h3⟩ := hq.alive (a := a) (by show pm_al (μ a) = true; rw [hw]; rfl)
  rw [show (n9, kc, ks, μ).2.2.2 a = .inl (1, n, .inr (.inl f)) from hw] at h3
  show W p l e R s m args below meth c H locs cells slots Q (F0 m pc' LS (.long x :: .int i :: .ref (pm_t z b a) :: st.map (pm_v z b)))
  rw [h2]
  exact va_last hx hb hK hq.1 pm_w_D hS a t0 h3 ht (pm_in_vp hok) hd (fun H1 locs1 hP1 _ hS1 => k H1 locs1 LS cells slots hl (hq.put h1 hP1) hS1 hk hs hn)
theorem ps_zald (hx : p.tables.exec = Jvm.exec) (hb : c.code = cc) (hK : va_K D cl tys s) (t0 : Nat) (ht : tys[t0]? = some (aC 2, .boolean)) (hd : decode cc pc = .ok (.baload, 1)) : pm_G p l e R s m args below meth c D cl z b aC k0 s0 n0 pg_zald pc := by
  intro S S' hpc h
  obtain ⟨pc', ls, st, n9, kc, ks, μ⟩ := S
  have hpc : pc' = pc := hpc
  subst hpc
  rcases st with _ | ⟨v, st⟩
  · exact nomatch (show (none : Option pm_S) = some S' from h)
  cases v <;> try exact nomatch (show (none : Option pm_S) = some S' from h)
  rename_i i
  rcases st with _ | ⟨v, st⟩
  · exact nomatch (show (none : Option pm_S) = some S' from h)
  cases v <;> try exact nomatch (show (none : Option pm_S) = some S' from h)
  rename_i a
  unfold pg_zald at h
  dsimp only at h
  generalize hw : μ a = q at h
  split at h
  rotate_left
  · exact nomatch (show (none : Option pm_S) = some S' from h)
  rename_i n f
  replace h := pm_bif (show (bif pm_in i n then some (pc' + 1, ls, .int (f i.toNatClampNeg) :: st, n9, kc, ks, μ) else none) = some S' from h)
  obtain ⟨hok, h⟩ := h
  subst h
  intro _ _ Q k H locs LS cells slots hl hq hS hk hs hn
  obtain ⟨h1, h2, h3⟩ := hq.alive (a := a) (by show pm_al (μ a) = true; rw [hw]; rfl)
  rw [show (n9, kc, ks, μ).2.2.2 a = .inl (2, n, .inl f) from hw] at h3
  show W p l e R s m args below meth c H locs cells slots Q (F0 m pc' LS (.int i :: .ref (pm_t z b a) :: st.map (pm_v z b)))
  rw [h2]
  exact va_zald hx hb hK hq.1 a t0 h3 ht (pm_in_vp hok) hd (k H locs LS cells slots hl hq hS hk hs hn)
theorem ps_zast (hx : p.tables.exec = Jvm.exec) (hb : c.code = cc) (hK : va_K D cl tys s) (t0 : Nat) (ht : tys[t0]? = some (aC 2, .boolean)) (hd : decode cc pc = .ok (.bastore, 1)) : pm_G p l e R s m args below meth c D cl z b aC k0 s0 n0 pg_zast pc := by
  intro S S' hpc h
  obtain ⟨pc', ls, st, n9, kc, ks, μ⟩ := S
  have hpc : pc' = pc := hpc
  subst hpc
  rcases st with _ | ⟨v, st⟩
  · exact nomatch (show (none : Option pm_S) = some S' from h)
  cases v <;> try exact nomatch (show (none : Option pm_S) = some S' from h)
  rename_i x
  rcases st with _ | ⟨v, st⟩
  · exact nomatch (show (none : Option pm_S) = some S' from h)
  cases v <;> try exact nomatch (show (none : Option pm_S) = some S' from h)
  rename_i i
  rcases st with _ | ⟨v, st⟩
  · exact nomatch (show (none : Option pm_S) = some S' from h)
  cases v <;> try exact nomatch (show (none : Option pm_S) = some S' from h)
  rename_i a
  unfold pg_zast at h
  dsimp only at h
  generalize hw : μ a = q at h
  split at h
  rotate_left
  · exact nomatch (show (none : Option pm_S) = some S' from h)
  rename_i n f
  replace h := pm_bif (show (bif pm_in i n && (x == 0 || x == 1) then some (pc' + 1, ls, st, n9, kc, ks, va_up μ a (.inl (2, n, .inl (upd f i.toNatClampNeg x)))) else none) = some S' from h)
  obtain ⟨hok, h⟩ := h
  rw [Bool.and_eq_true, Bool.or_eq_true, beq_iff_eq, beq_iff_eq] at hok
  obtain ⟨hok, h01⟩ := hok
  have hnar : vp_nar .boolean x = x := by rcases h01 with rfl | rfl <;> decide +kernel
  subst h
  intro _ _ Q k H locs LS cells slots hl hq hS hk hs hn
  obtain ⟨h1, h2, h3⟩ := hq.alive (a := a) (by show pm_al (μ a) = true; rw [hw]; rfl)
  rw [show (n9, kc, ks, μ).2.2.2 a = .inl (2, n, .inl f) from hw] at h3
  show W p l e R s m args below meth c H locs cells slots Q (F0 m pc' LS (.int x :: .int i :: .ref (pm_t z b a) :: st.map (pm_v z b)))
  rw [h2]
  exact va_zast hx hb hK hq.1 pm_w_D hS a t0 h3 ht (pm_in_vp hok) hd (fun H1 locs1 hP1 _ hS1 => k H1 locs1 LS cells slots hl (hq.put h1 (by rw [hnar] at hP1; exact hP1)) hS1 hk hs hn)
theorem pm_v_rf (z b : Nat) (o : Option Nat) : pm_v z b (va_rf o) = va_rf (o.map (pm_t z b)) := by cases o <;> rfl
theorem ps_aald (hx : p.tables.exec = Jvm.exec) (hb : c.code = cc) (hK : va_K D cl tys s) (t0 : Nat) {t : Nat} {C : String} (ht : tys[t0]? = some (aC t, .object C)) (ht9 : (Nat.beq t 999) = false) (hd : decode cc pc = .ok (.aaload, 1)) : pm_G p l e R s m args below meth c D cl z b aC k0 s0 n0 (pg_aald t) pc := by
  intro S S' hpc h
  obtain ⟨pc', ls, st, n9, kc, ks, μ⟩ := S
  have hpc : pc' = pc := hpc
  subst hpc
  rcases st with _ | ⟨v, st⟩
  · exact nomatch (show (none : Option pm_S) = some S' from h)
  cases v <;> try exact nomatch (show (none : Option pm_S) = some S' from h)
  rename_i i
  rcases st with _ | ⟨v, st⟩
  · exact nomatch (show (none : Option pm_S) = some S' from h)
  cases v <;> try exact nomatch (show (none : Option pm_S) = some S' from h)
  rename_i a
  unfold pg_aald at h
  dsimp only at h
  generalize hw : μ a = q at h
  split at h
  rotate_left
  · exact nomatch (show (none : Option pm_S) = some S' from h)
  rename_i u n f
  replace h := pm_bif (show (bif Nat.beq u t && pm_in i n then some (pc' + 1, ls, va_rf (f i.toNatClampNeg) :: st, n9, kc, ks, μ) else none) = some S' from h)
  obtain ⟨hok, h⟩ := h
  rw [Bool.and_eq_true] at hok
  obtain ⟨hu, hin⟩ := hok
  have hu : u = t := Nat.eq_of_beq_eq_true hu
  subst hu
  subst h
  intro _ _ Q k H locs LS cells slots hl hq hS hk hs hn
  obtain ⟨h1, h2, h3⟩ := hq.alive (a := a) (by show pm_al (μ a) = true; rw [hw]; show (!(Nat.beq u 999)) = true; rw [ht9]; rfl)
  rw [show (n9, kc, ks, μ).2.2.2 a = .inl (u, n, .inr (.inr (.inr (.inr f)))) from hw] at h3
  show W p l e R s m args below meth c H locs cells slots Q (F0 m pc' LS (.int i :: .ref (pm_t z b a) :: st.map (pm_v z b)))
  rw [h2]
  refine va_aldq hx hb hK hq.1 a t0 h3 ht (pm_in_vp hin) hd ?_
  have k9 := k H locs LS cells slots hl hq hS hk hs hn
  rw [← pm_v_rf]
  exact k9
theorem ps_aast (hx : p.tables.exec = Jvm.exec) (hb : c.code = cc) (hK : va_K D cl tys s) (t0 : Nat) {t ci : Nat} {r : vw_C} (ht : tys[t0]? = some (aC t, .object r.1)) (hc : cl[ci]? = some r) (ht9 : (Nat.beq t 999) = false) (hd : decode cc pc = .ok (.aastore, 1)) : pm_G p l e R s m args below meth c D cl z b aC k0 s0 n0 (pg_aast t ci) pc := by
  intro S S' hpc h
  obtain ⟨pc', ls, st, n9, kc, ks, μ⟩ := S
  have hpc : pc' = pc := hpc
  subst hpc
  rcases st with _ | ⟨v, st⟩
  · exact nomatch (show (none : Option pm_S) = some S' from h)
  cases v <;> try exact nomatch (show (none : Option pm_S) = some S' from h)
  rename_i v9
  rcases st with _ | ⟨v, st⟩
  · exact nomatch (show (none : Option pm_S) = some S' from h)
  cases v <;> try exact nomatch (show (none : Option pm_S) = some S' from h)
  rename_i i
  rcases st with _ | ⟨v, st⟩
  · exact nomatch (show (none : Option pm_S) = some S' from h)
  cases v <;> try exact nomatch (show (none : Option pm_S) = some S' from h)
  rename_i a
  unfold pg_aast at h
  dsimp only at h
  generalize hw : μ a = q at h
  generalize hw2 : μ v9 = q2 at h
  split at h
  rotate_left
  · exact nomatch (show (none : Option pm_S) = some S' from h)
  rename_i u n f cj vs
  replace h := pm_bif (show (bif Nat.beq u t && (Nat.beq cj ci && pm_in i n) then some (pc' + 1, ls, st, n9, kc, ks, va_up μ a (.inl (u, n, .inr (.inr (.inr (.inr (va_up f i.toNatClampNeg (some v9)))))))) else none) = some S' from h)
  obtain ⟨hok, h⟩ := h
  rw [Bool.and_eq_true, Bool.and_eq_true] at hok
  obtain ⟨hu, hci, hin⟩ := hok
  have hu : u = t := Nat.eq_of_beq_eq_true hu
  have hci : cj = ci := Nat.eq_of_beq_eq_true hci
  subst hu
  subst hci
  subst h
  intro _ _ Q k H locs LS cells slots hl hq hS hk hs hn
  obtain ⟨h1, h2, h3⟩ := hq.alive (a := a) (by show pm_al (μ a) = true; rw [hw]; show (!(Nat.beq u 999)) = true; rw [ht9]; rfl)
  obtain ⟨g1, g2, g3⟩ := hq.alive (a := v9) (by show pm_al (μ v9) = true; rw [hw2]; rfl)
  rw [show (n9, kc, ks, μ).2.2.2 a = .inl (u, n, .inr (.inr (.inr (.inr f)))) from hw] at h3
  rw [show (n9, kc, ks, μ).2.2.2 v9 = .inr (cj, vs) from hw2] at g3
  show W p l e R s m args below meth c H locs cells slots Q (F0 m pc' LS (.ref (pm_t z b v9) :: .int i :: .ref (pm_t z b a) :: st.map (pm_v z b)))
  rw [h2, g2]
  refine va_astq hx hb hK hq.1 pm_w_D hS a t0 v9 cj h3 ht g3 hc (pm_in_vp hin) hd (fun H1 locs1 hP1 _ hS1 => k H1 locs1 LS cells slots hl (hq.put h1 ?_) hS1 hk hs hn)
  have e9 : (fun j => (va_up f i.toNatClampNeg (some v9) j).map (pm_t z b)) = va_up (fun j => (f j).map (pm_t z b)) i.toNatClampNeg (some (z + v9)) := by
    funext j
    by_cases hj : j = i.toNatClampNeg
    · subst hj; rw [va_up_self, va_up_self, ← g2]; rfl
    · rw [va_up_ne _ _ hj, va_up_ne _ _ hj]
  show va_P D cl ((pm_w z b aC (n9, kc, ks, μ)).set a (z + a, .inl (aC u, n, .inr (.inr (.inr (.inr (fun j => (va_up f i.toNatClampNeg (some v9) j).map (pm_t z b)))))))) H1
  rw [e9]
  exact hP1
theorem ps_alen (hx : p.tables.exec = Jvm.exec) (hb : c.code = cc) (hK : va_K D cl tys s) (t0 : Nat) (ht : tys[t0]? = some (aC 0, .int)) (hd : decode cc pc = .ok (.arraylength, 1)) : pm_G p l e R s m args below meth c D cl z b aC k0 s0 n0 pg_alen pc := by
  intro S S' hpc h
  obtain ⟨pc', ls, st, n9, kc, ks, μ⟩ := S
  have hpc : pc' = pc := hpc
  subst hpc
  rcases st with _ | ⟨v, st⟩
  · exact nomatch (show (none : Option pm_S) = some S' from h)
  cases v <;> try exact nomatch (show (none : Option pm_S) = some S' from h)
  rename_i a
  unfold pg_alen at h
  dsimp only at h
  generalize hw : μ a = q at h
  split at h
  rotate_left
  · exact nomatch (show (none : Option pm_S) = some S' from h)
  rename_i n f
  have h := Option.some.inj (show some (pc' + 1, ls, .int (Int32.ofNat n) :: st, n9, kc, ks, μ) = some S' from h)
  subst h
  intro _ _ Q k H locs LS cells slots hl hq hS hk hs hn
  obtain ⟨h1, h2, h3⟩ := hq.alive (a := a) (by show pm_al (μ a) = true; rw [hw]; rfl)
  rw [show (n9, kc, ks, μ).2.2.2 a = .inl (0, n, .inl f) from hw] at h3
  show W p l e R s m args below meth c H locs cells slots Q (F0 m pc' LS (.ref (pm_t z b a) :: st.map (pm_v z b)))
  rw [h2]
  exact va_alen hx hb hK hq.1 a t0 h3 ht rfl hd (k H locs LS cells slots hl hq hS hk hs hn)
theorem pm_t_big {z b : Nat} : pm_t z b 1000000 = b := if_neg (by decide)
theorem ps_sald (hx : p.tables.exec = Jvm.exec) (hb : c.code = cc) {L : Nat} {xs : Nat → Int32} (hX : va_X b L xs s s.heap) (hbl : b < s.heap.size) (hbz : b < z) (hd : decode cc pc = .ok (.iaload, 1)) : pm_G p l e R s m args below meth c D cl z b aC k0 s0 n0 (pg_sald xs L) pc := by
  intro S S' hpc h
  obtain ⟨pc', ls, st, n9, kc, ks, μ⟩ := S
  have hpc : pc' = pc := hpc
  subst hpc
  rcases st with _ | ⟨v, st⟩
  · exact nomatch (show (none : Option pm_S) = some S' from h)
  cases v <;> try exact nomatch (show (none : Option pm_S) = some S' from h)
  rename_i i
  rcases st with _ | ⟨v, st⟩
  · exact nomatch (show (none : Option pm_S) = some S' from h)
  cases v <;> try exact nomatch (show (none : Option pm_S) = some S' from h)
  rename_i a
  replace h := pm_bif (show (bif Nat.beq a 1000000 && pm_in i L then some (pc' + 1, ls, .int (xs i.toNatClampNeg) :: st, n9, kc, ks, μ) else none) = some S' from h)
  obtain ⟨hok, h⟩ := h
  rw [Bool.and_eq_true] at hok
  obtain ⟨ha, hok⟩ := hok
  have ha : a = 1000000 := Nat.eq_of_beq_eq_true ha
  subst ha
  subst h
  intro _ _ Q k H locs LS cells slots hl hq hS hk hs hn
  show W p l e R s m args below meth c H locs cells slots Q (F0 m pc' LS (.int i :: .ref (pm_t z b 1000000) :: st.map (pm_v z b)))
  rw [pm_t_big]
  exact va_sld hx hb hX hbl (by omega) hS (pm_in_vp hok) hd (k H locs LS cells slots hl hq hS hk hs hn)
theorem ps_slen (hx : p.tables.exec = Jvm.exec) (hb : c.code = cc) {L : Nat} {xs : Nat → Int32} (hX : va_X b L xs s s.heap) (hbl : b < s.heap.size) (hbz : b < z) (hd : decode cc pc = .ok (.arraylength, 1)) : pm_G p l e R s m args below meth c D cl z b aC k0 s0 n0 (pg_slen L) pc := by
  intro S S' hpc h
  obtain ⟨pc', ls, st, n9, kc, ks, μ⟩ := S
  have hpc : pc' = pc := hpc
  subst hpc
  rcases st with _ | ⟨v, st⟩
  · exact nomatch (show (none : Option pm_S) = some S' from h)
  cases v <;> try exact nomatch (show (none : Option pm_S) = some S' from h)
  rename_i a
  replace h := pm_bif (show (bif Nat.beq a 1000000 then some (pc' + 1, ls, .int (Int32.ofNat L) :: st, n9, kc, ks, μ) else none) = some S' from h)
  obtain ⟨ha, h⟩ := h
  have ha : a = 1000000 := Nat.eq_of_beq_eq_true ha
  subst ha
  subst h
  intro _ _ Q k H locs LS cells slots hl hq hS hk hs hn
  show W p l e R s m args below meth c H locs cells slots Q (F0 m pc' LS (.ref (pm_t z b 1000000) :: st.map (pm_v z b)))
  rw [pm_t_big]
  exact va_slen hx hb hX hbl (by omega) hS hd (k H locs LS cells slots hl hq hS hk hs hn)
theorem ps_obj (hx : p.tables.exec = Jvm.exec) (hb : c.code = cc) {own : String} {idx : Nat} (hown : s.vm.findClass own = some m.cls) (hlink : (Cond.methodLink own idx Lib.objectInit).before args s = true) (hinst : (Cond.instanceMethod Lib.objectInit).before args s = true) (hcode : (Cond.code Lib.objectInit ⟨#[0xb1]⟩ 1 none).before args s = true) (hf : 1 ≤ R.frames) (hlo : 20 ≤ R.locals) (hd : decode cc pc = .ok (.invokespecial idx, 3)) : pm_G p l e R s m args below meth c D cl z b aC k0 s0 n0 pg_obj pc := by
  intro S S' hpc h
  obtain ⟨pc', ls, st, n9, kc, ks, μ⟩ := S
  have hpc : pc' = pc := hpc
  subst hpc
  rcases st with _ | ⟨v, st⟩
  · exact nomatch (show (none : Option pm_S) = some S' from h)
  cases v <;> try exact nomatch (show (none : Option pm_S) = some S' from h)
  rename_i a
  replace h := pm_bif (show (bif Nat.ble (st.map (fun v => v.category)).sum 8 then some (pc' + 3, ls, st, n9, kc, ks, μ) else none) = some S' from h)
  obtain ⟨hok, h⟩ := h
  have hok := Nat.le_of_ble_eq_true hok
  subst h
  intro _ _ Q k H locs LS cells slots hl hq hS hk hs hn
  have e9 : ((st.map (pm_v z b)).map fun v => v.category) = st.map (fun v => v.category) := by rw [List.map_map]; exact List.map_congr_left (fun v _ => pm_v_cat z b v)
  refine W.objInit hx hb hown hlink hinst hcode (g := F0 m pc' LS (.ref (pm_t z b a) :: st.map (pm_v z b))) rfl (hl.2.1.trans hl.1) rfl hd hf ?_ (k H locs LS cells slots hl hq hS hk hs hn)
  rw [e9]
  show 2 * 0 + _ + 12 ≤ _
  omega
theorem ps_new (hx : p.tables.exec = Jvm.exec) (hb : c.code = cc) {own C : String} {T : u_T} {N ci index : Nat} {Ts : List Cond} (hts : ∀ w ∈ Ts, w.before args s = true) (hin : ∀ w ∈ u_ws C T N, w ∈ Ts) (ty : Nat → FieldType) (hty : ∀ k, k < N → parseFieldDescriptor (T k).2.2.1 = some (ty k)) (hown : s.vm.findClass own = some m.cls) (hcl : (Cond.classLink own index C).before args s = true) (hinst : (Cond.instantiable C N).before args s = true) (hini : (Cond.initialized C).before args s = true) (hK : va_K D cl tys s) (hc : cl[ci]? = some (C, T, N)) {fs : List Value} (hfs : ∀ j, j < N → defaultValue (ty j) = vp_V fs j) (hfr : fs.map (pm_v z b) = fs) (hz : z ≤ s.heap.size ∧ n0 ≤ k0 ∧ (n0 = k0 → s.heap.size = z + n0)) (hd : decode cc pc = .ok (.new index, 3)) : pm_G p l e R s m args below meth c D cl z b aC k0 s0 n0 (pg_new ci N fs) pc := by
  intro S S' hpc h
  obtain ⟨pc', ls, st, n9, kc, ks, μ⟩ := S
  have hpc : pc' = pc := hpc
  subst hpc
  replace h := pm_bif (show (bif Nat.beq n9 kc && Nat.blt n9 1000000 then some (pc' + 3, ls, .ref n9 :: st, n9 + 1, kc + 1, ks + N, va_up μ n9 (.inr (ci, fs))) else none) = some S' from h)
  obtain ⟨hok, h⟩ := h
  rw [Bool.and_eq_true, Nat.blt_eq] at hok
  obtain ⟨hd9, hm9⟩ := hok
  have hd9 : n9 = kc := Nat.eq_of_beq_eq_true hd9
  subst h
  intro hc1 hs1 Q k
  have hc1 : kc + 1 ≤ k0 + R.cells := hc1
  have hs1 : ks + N ≤ s0 + R.slots := hs1
  intro H locs LS cells slots hl hq hS hk hs hn T9 hT9 X9
  have hk : k0 + cells = kc := hk
  have hs : s0 + slots = ks := hs
  have hn : n9 + k0 ≤ n0 + kc := hn
  have hsz : H.size = z + n9 := pm_size hq hz hS.1 (by rw [← hT9]; exact X9.heapSize) hk hn hd9
  have hKn := hK.1 ci _ hc
  refine W.newcK hx hb hown hcl hinst hini (g := F0 m pc' LS (st.map (pm_v z b))) rfl hd (by omega) (by omega) hKn.2.1 hsz (fun H1 kC hkC e1 z1 o1 => ?_) T9 hT9 X9
  have hk9 : ∀ (j : Nat) (x : Nat × va_E), (pm_w z b aC (n9, kc, ks, μ))[j]? = some x → H1[x.1]? = H[x.1]? := fun j x hx => o1 x.1 (by rw [← hsz]; exact (hq.1 j x hx).lt)
  have k9 := k H1 locs LS (cells + 1) (slots + N) hl ⟨?_, show n9 + 1 ≤ 1000000 from hm9, fun j hj => ?_⟩ ⟨by have := hS.1; omega, fun x g1 g2 => (o1 x (by have := hS.1; omega)).trans (hS.2.1 x g1 g2), hS.2.2⟩ (show k0 + (cells + 1) = kc + 1 by omega) (show s0 + (slots + N) = ks + N by omega) (show n9 + 1 + k0 ≤ n0 + (kc + 1) by omega)
  · rw [← pm_t_lt (z := z) (b := b) hm9]
    exact k9
  · rw [pm_w_push (kc := kc) (ks := ks)]
    refine (hq.1.kept hk9).app (fun j x hx => ?_)
    have hz9 : j < 1 := (List.getElem?_eq_some_iff.mp hx).1
    rw [show j = 0 by omega] at hx
    cases hx
    show va_at D cl (z + n9, .inr (ci, fs.map (pm_v z b))) H1
    rw [hfr]
    exact ⟨_, hc, (u_born ty hts hin hKn hkC e1 hty).to hfs⟩
  · show j < n9 + 1
    by_cases hjn : j = n9
    · omega
    · have hj : pm_al (va_up μ n9 (.inr (ci, fs)) j) = true := hj
      rw [va_up_ne _ _ hjn] at hj
      have : j < n9 := hq.2.2 j hj
      omega
theorem ps_newi (hx : p.tables.exec = Jvm.exec) (hb : c.code = cc) (harr : (Cond.arrayClass .int).before args s = true) (hK : va_K D cl tys s) (t0 : Nat) (ht : tys[t0]? = some (aC 0, .int)) (hz : z ≤ s.heap.size ∧ n0 ≤ k0 ∧ (n0 = k0 → s.heap.size = z + n0)) (hd : decode cc pc = .ok (.newarray .int, 2)) : pm_G p l e R s m args below meth c D cl z b aC k0 s0 n0 pg_newi pc := by
  intro S S' hpc h
  obtain ⟨pc', ls, st, n9, kc, ks, μ⟩ := S
  have hpc : pc' = pc := hpc
  subst hpc
  rcases st with _ | ⟨v, st⟩
  · exact nomatch (show (none : Option pm_S) = some S' from h)
  cases v <;> try exact nomatch (show (none : Option pm_S) = some S' from h)
  rename_i x9
  replace h := pm_bif (show (bif Nat.beq n9 kc && (Nat.blt n9 1000000 && pm_in x9 1000000) then some (pc' + 2, ls, .ref n9 :: st, n9 + 1, kc + 1, ks + x9.toNatClampNeg, va_up μ n9 (.inl (0, x9.toNatClampNeg, .inl (fun _ => 0)))) else none) = some S' from h)
  obtain ⟨hok, h⟩ := h
  rw [Bool.and_eq_true, Bool.and_eq_true, Nat.blt_eq] at hok
  obtain ⟨hd9, hm9, hin9⟩ := hok
  have hd9 : n9 = kc := Nat.eq_of_beq_eq_true hd9
  have hin9 := pm_in_vp hin9
  have hlt9 : x9.toNatClampNeg < 1000000 := Nat.not_le.mp fun q => hin9 (Or.inr q)
  subst h
  intro hc1 hs1 Q k
  have hc1 : kc + 1 ≤ k0 + R.cells := hc1
  have hs1 : ks + x9.toNatClampNeg ≤ s0 + R.slots := hs1
  intro H locs LS cells slots hl hq hS hk hs hn T9 hT9 X9
  have hk : k0 + cells = kc := hk
  have hs : s0 + slots = ks := hs
  have hn : n9 + k0 ≤ n0 + kc := hn
  have hsz : H.size = z + n9 := pm_size hq hz hS.1 (by rw [← hT9]; exact X9.heapSize) hk hn hd9
  refine va_newaK hx hb (atype := .int) harr (g := F0 m pc' LS (.int x9 :: st.map (pm_v z b))) rfl hd rfl (fun q => hin9 (Or.inl q)) rfl (by show x9.toNatClampNeg * 4 ≤ _; omega) (by omega) (by omega) hsz (fun H1 cA e1 z1 o1 hAr hNm => ?_) T9 hT9 X9
  have hcA : cA = aC 0 := Option.some.inj (hNm.symm.trans (hK.2 t0 _ ht).2)
  subst hcA
  have hk9 : ∀ (j : Nat) (x : Nat × va_E), (pm_w z b aC (n9, kc, ks, μ))[j]? = some x → H1[x.1]? = H[x.1]? := fun j x hx => o1 x.1 (by rw [← hsz]; exact (hq.1 j x hx).lt)
  have k9 := k H1 locs LS (cells + 1) (slots + x9.toNatClampNeg) hl ⟨?_, show n9 + 1 ≤ 1000000 from hm9, fun j hj => ?_⟩ ⟨by have := hS.1; omega, fun x g1 g2 => (o1 x (by have := hS.1; omega)).trans (hS.2.1 x g1 g2), hS.2.2⟩ (show k0 + (cells + 1) = kc + 1 by omega) (show s0 + (slots + x9.toNatClampNeg) = ks + x9.toNatClampNeg by omega) (show n9 + 1 + k0 ≤ n0 + (kc + 1) by omega)
  · rw [← pm_t_lt (z := z) (b := b) hm9]
    exact k9
  · rw [pm_w_push (kc := kc) (ks := ks)]
    refine (hq.1.kept hk9).app (fun j x hx => ?_)
    have hz9 : j < 1 := (List.getElem?_eq_some_iff.mp hx).1
    rw [show j = 0 by omega] at hx
    cases hx
    show H1[z + n9]? = some (vp_cell _ _)
    exact e1
  · show j < n9 + 1
    by_cases hjn : j = n9
    · omega
    · have hj : pm_al (va_up μ n9 (.inl (0, x9.toNatClampNeg, .inl (fun _ => 0))) j) = true := hj
      rw [va_up_ne _ _ hjn] at hj
      have : j < n9 := hq.2.2 j hj
      omega
theorem ps_newz (hx : p.tables.exec = Jvm.exec) (hb : c.code = cc) (harr : (Cond.arrayClass .boolean).before args s = true) (hK : va_K D cl tys s) (t0 : Nat) (ht : tys[t0]? = some (aC 2, .boolean)) (hz : z ≤ s.heap.size ∧ n0 ≤ k0 ∧ (n0 = k0 → s.heap.size = z + n0)) (hd : decode cc pc = .ok (.newarray .boolean, 2)) : pm_G p l e R s m args below meth c D cl z b aC k0 s0 n0 pg_newz pc := by
  intro S S' hpc h
  obtain ⟨pc', ls, st, n9, kc, ks, μ⟩ := S
  have hpc : pc' = pc := hpc
  subst hpc
  rcases st with _ | ⟨v, st⟩
  · exact nomatch (show (none : Option pm_S) = some S' from h)
  cases v <;> try exact nomatch (show (none : Option pm_S) = some S' from h)
  rename_i x9
  replace h := pm_bif (show (bif Nat.beq n9 kc && (Nat.blt n9 1000000 && pm_in x9 1000000) then some (pc' + 2, ls, .ref n9 :: st, n9 + 1, kc + 1, ks + x9.toNatClampNeg, va_up μ n9 (.inl (2, x9.toNatClampNeg, .inl (fun _ => 0)))) else none) = some S' from h)
  obtain ⟨hok, h⟩ := h
  rw [Bool.and_eq_true, Bool.and_eq_true, Nat.blt_eq] at hok
  obtain ⟨hd9, hm9, hin9⟩ := hok
  have hd9 : n9 = kc := Nat.eq_of_beq_eq_true hd9
  have hin9 := pm_in_vp hin9
  have hlt9 : x9.toNatClampNeg < 1000000 := Nat.not_le.mp fun q => hin9 (Or.inr q)
  subst h
  intro hc1 hs1 Q k
  have hc1 : kc + 1 ≤ k0 + R.cells := hc1
  have hs1 : ks + x9.toNatClampNeg ≤ s0 + R.slots := hs1
  intro H locs LS cells slots hl hq hS hk hs hn T9 hT9 X9
  have hk : k0 + cells = kc := hk
  have hs : s0 + slots = ks := hs
  have hn : n9 + k0 ≤ n0 + kc := hn
  have hsz : H.size = z + n9 := pm_size hq hz hS.1 (by rw [← hT9]; exact X9.heapSize) hk hn hd9
  refine va_newaK hx hb (atype := .boolean) harr (g := F0 m pc' LS (.int x9 :: st.map (pm_v z b))) rfl hd rfl (fun q => hin9 (Or.inl q)) rfl (by show x9.toNatClampNeg * 1 ≤ _; omega) (by omega) (by omega) hsz (fun H1 cA e1 z1 o1 hAr hNm => ?_) T9 hT9 X9
  have hcA : cA = aC 2 := Option.some.inj (hNm.symm.trans (hK.2 t0 _ ht).2)
  subst hcA
  have hk9 : ∀ (j : Nat) (x : Nat × va_E), (pm_w z b aC (n9, kc, ks, μ))[j]? = some x → H1[x.1]? = H[x.1]? := fun j x hx => o1 x.1 (by rw [← hsz]; exact (hq.1 j x hx).lt)
  have k9 := k H1 locs LS (cells + 1) (slots + x9.toNatClampNeg) hl ⟨?_, show n9 + 1 ≤ 1000000 from hm9, fun j hj => ?_⟩ ⟨by have := hS.1; omega, fun x g1 g2 => (o1 x (by have := hS.1; omega)).trans (hS.2.1 x g1 g2), hS.2.2⟩ (show k0 + (cells + 1) = kc + 1 by omega) (show s0 + (slots + x9.toNatClampNeg) = ks + x9.toNatClampNeg by omega) (show n9 + 1 + k0 ≤ n0 + (kc + 1) by omega)
  · rw [← pm_t_lt (z := z) (b := b) hm9]
    exact k9
  · rw [pm_w_push (kc := kc) (ks := ks)]
    refine (hq.1.kept hk9).app (fun j x hx => ?_)
    have hz9 : j < 1 := (List.getElem?_eq_some_iff.mp hx).1
    rw [show j = 0 by omega] at hx
    cases hx
    show H1[z + n9]? = some (vp_cell _ _)
    exact e1
  · show j < n9 + 1
    by_cases hjn : j = n9
    · omega
    · have hj : pm_al (va_up μ n9 (.inl (2, x9.toNatClampNeg, .inl (fun _ => 0))) j) = true := hj
      rw [va_up_ne _ _ hjn] at hj
      have : j < n9 := hq.2.2 j hj
      omega
theorem ps_newl (hx : p.tables.exec = Jvm.exec) (hb : c.code = cc) (harr : (Cond.arrayClass .long).before args s = true) (hK : va_K D cl tys s) (t0 : Nat) (ht : tys[t0]? = some (aC 1, .long)) (hz : z ≤ s.heap.size ∧ n0 ≤ k0 ∧ (n0 = k0 → s.heap.size = z + n0)) (hd : decode cc pc = .ok (.newarray .long, 2)) : pm_G p l e R s m args below meth c D cl z b aC k0 s0 n0 pg_newl pc := by
  intro S S' hpc h
  obtain ⟨pc', ls, st, n9, kc, ks, μ⟩ := S
  have hpc : pc' = pc := hpc
  subst hpc
  rcases st with _ | ⟨v, st⟩
  · exact nomatch (show (none : Option pm_S) = some S' from h)
  cases v <;> try exact nomatch (show (none : Option pm_S) = some S' from h)
  rename_i x9
  replace h := pm_bif (show (bif Nat.beq n9 kc && (Nat.blt n9 1000000 && pm_in x9 1000000) then some (pc' + 2, ls, .ref n9 :: st, n9 + 1, kc + 1, ks + x9.toNatClampNeg, va_up μ n9 (.inl (1, x9.toNatClampNeg, .inr (.inl (fun _ => 0))))) else none) = some S' from h)
  obtain ⟨hok, h⟩ := h
  rw [Bool.and_eq_true, Bool.and_eq_true, Nat.blt_eq] at hok
  obtain ⟨hd9, hm9, hin9⟩ := hok
  have hd9 : n9 = kc := Nat.eq_of_beq_eq_true hd9
  have hin9 := pm_in_vp hin9
  have hlt9 : x9.toNatClampNeg < 1000000 := Nat.not_le.mp fun q => hin9 (Or.inr q)
  subst h
  intro hc1 hs1 Q k
  have hc1 : kc + 1 ≤ k0 + R.cells := hc1
  have hs1 : ks + x9.toNatClampNeg ≤ s0 + R.slots := hs1
  intro H locs LS cells slots hl hq hS hk hs hn T9 hT9 X9
  have hk : k0 + cells = kc := hk
  have hs : s0 + slots = ks := hs
  have hn : n9 + k0 ≤ n0 + kc := hn
  have hsz : H.size = z + n9 := pm_size hq hz hS.1 (by rw [← hT9]; exact X9.heapSize) hk hn hd9
  refine va_newaK hx hb (atype := .long) harr (g := F0 m pc' LS (.int x9 :: st.map (pm_v z b))) rfl hd rfl (fun q => hin9 (Or.inl q)) rfl (by show x9.toNatClampNeg * 8 ≤ _; omega) (by omega) (by omega) hsz (fun H1 cA e1 z1 o1 hAr hNm => ?_) T9 hT9 X9
  have hcA : cA = aC 1 := Option.some.inj (hNm.symm.trans (hK.2 t0 _ ht).2)
  subst hcA
  have hk9 : ∀ (j : Nat) (x : Nat × va_E), (pm_w z b aC (n9, kc, ks, μ))[j]? = some x → H1[x.1]? = H[x.1]? := fun j x hx => o1 x.1 (by rw [← hsz]; exact (hq.1 j x hx).lt)
  have k9 := k H1 locs LS (cells + 1) (slots + x9.toNatClampNeg) hl ⟨?_, show n9 + 1 ≤ 1000000 from hm9, fun j hj => ?_⟩ ⟨by have := hS.1; omega, fun x g1 g2 => (o1 x (by have := hS.1; omega)).trans (hS.2.1 x g1 g2), hS.2.2⟩ (show k0 + (cells + 1) = kc + 1 by omega) (show s0 + (slots + x9.toNatClampNeg) = ks + x9.toNatClampNeg by omega) (show n9 + 1 + k0 ≤ n0 + (kc + 1) by omega)
  · rw [← pm_t_lt (z := z) (b := b) hm9]
    exact k9
  · rw [pm_w_push (kc := kc) (ks := ks)]
    refine (hq.1.kept hk9).app (fun j x hx => ?_)
    have hz9 : j < 1 := (List.getElem?_eq_some_iff.mp hx).1
    rw [show j = 0 by omega] at hx
    cases hx
    show H1[z + n9]? = some (vp_cell _ _)
    exact e1
  · show j < n9 + 1
    by_cases hjn : j = n9
    · omega
    · have hj : pm_al (va_up μ n9 (.inl (1, x9.toNatClampNeg, .inr (.inl (fun _ => 0)))) j) = true := hj
      rw [va_up_ne _ _ hjn] at hj
      have : j < n9 := hq.2.2 j hj
      omega
theorem ps_newq (hx : p.tables.exec = Jvm.exec) (hb : c.code = cc) {own C : String} {index : Nat} (hown : s.vm.findClass own = some m.cls) (hclink : (Cond.classLink own index C).before args s = true) (hover : va_AO C s) (hK : va_K D cl tys s) (t0 : Nat) {t : Nat} (ht : tys[t0]? = some (aC t, .object C)) (hz : z ≤ s.heap.size ∧ n0 ≤ k0 ∧ (n0 = k0 → s.heap.size = z + n0)) (hd : decode cc pc = .ok (.anewarray index, 3)) : pm_G p l e R s m args below meth c D cl z b aC k0 s0 n0 (pg_newq t) pc := by
  intro S S' hpc h
  obtain ⟨pc', ls, st, n9, kc, ks, μ⟩ := S
  have hpc : pc' = pc := hpc
  subst hpc
  rcases st with _ | ⟨v, st⟩
  · exact nomatch (show (none : Option pm_S) = some S' from h)
  cases v <;> try exact nomatch (show (none : Option pm_S) = some S' from h)
  rename_i x9
  replace h := pm_bif (show (bif Nat.beq n9 kc && (Nat.blt n9 1000000 && pm_in x9 1000000) then some (pc' + 3, ls, .ref n9 :: st, n9 + 1, kc + 1, ks + x9.toNatClampNeg, va_up μ n9 (.inl (t, x9.toNatClampNeg, .inr (.inr (.inr (.inr (fun _ => none))))))) else none) = some S' from h)
  obtain ⟨hok, h⟩ := h
  rw [Bool.and_eq_true, Bool.and_eq_true, Nat.blt_eq] at hok
  obtain ⟨hd9, hm9, hin9⟩ := hok
  have hd9 : n9 = kc := Nat.eq_of_beq_eq_true hd9
  have hin9 := pm_in_vp hin9
  have hlt9 : x9.toNatClampNeg < 1000000 := Nat.not_le.mp fun q => hin9 (Or.inr q)
  subst h
  intro hc1 hs1 Q k
  have hc1 : kc + 1 ≤ k0 + R.cells := hc1
  have hs1 : ks + x9.toNatClampNeg ≤ s0 + R.slots := hs1
  intro H locs LS cells slots hl hq hS hk hs hn T9 hT9 X9
  have hk : k0 + cells = kc := hk
  have hs : s0 + slots = ks := hs
  have hn : n9 + k0 ≤ n0 + kc := hn
  have hsz : H.size = z + n9 := pm_size hq hz hS.1 (by rw [← hT9]; exact X9.heapSize) hk hn hd9
  refine W.anew hx hb hown hclink (va_AO.use hover) (g := F0 m pc' LS (.int x9 :: st.map (pm_v z b))) rfl hd rfl (fun q => hin9 (Or.inl q)) (by omega) (by omega) (by omega) (fun cA kA comp f1 f2 f3 f4 => ?_) T9 hT9 X9
  have hcA : cA = aC t := by
    obtain ⟨kA', comp', -, -, -, g4⟩ := (hK.2 t0 _ ht).2
    exact Option.some.inj (f1.symm.trans g4)
  subst hcA
  generalize hH1 : H.push ({ cls := aC t, slots := Array.replicate x9.toNatClampNeg .null, vm := .none } : Cell) = H1
  have z1 : H1.size = z + n9 + 1 := by rw [← hH1, Array.size_push, hsz]
  have e1 : H1[z + n9]? = some (arrV (aC t) x9.toNatClampNeg (fun _ => .null)) := by rw [← hsz, ← hH1, Array.getElem?_push_size, ← arrV_new]
  have o1 : ∀ q : Nat, q < z + n9 → H1[q]? = H[q]? := fun q hq9 => by rw [← hH1, Array.getElem?_push, if_neg (by omega)]
  rw [hsz]
  have hk9 : ∀ (j : Nat) (x : Nat × va_E), (pm_w z b aC (n9, kc, ks, μ))[j]? = some x → H1[x.1]? = H[x.1]? := fun j x hx => o1 x.1 (by rw [← hsz]; exact (hq.1 j x hx).lt)
  have k9 := k H1 locs LS (cells + 1) (slots + x9.toNatClampNeg) hl ⟨?_, show n9 + 1 ≤ 1000000 from hm9, fun j hj => ?_⟩ ⟨by have := hS.1; omega, fun x g1 g2 => (o1 x (by have := hS.1; omega)).trans (hS.2.1 x g1 g2), hS.2.2⟩ (show k0 + (cells + 1) = kc + 1 by omega) (show s0 + (slots + x9.toNatClampNeg) = ks + x9.toNatClampNeg by omega) (show n9 + 1 + k0 ≤ n0 + (kc + 1) by omega)
  · rw [← pm_t_lt (z := z) (b := b) hm9]
    exact k9
  · rw [pm_w_push (kc := kc) (ks := ks)]
    refine (hq.1.kept hk9).app (fun j x hx => ?_)
    have hz9 : j < 1 := (List.getElem?_eq_some_iff.mp hx).1
    rw [show j = 0 by omega] at hx
    cases hx
    show H1[z + n9]? = some (vp_cell _ _)
    exact e1
  · show j < n9 + 1
    by_cases hjn : j = n9
    · omega
    · have hj : pm_al (va_up μ n9 (.inl (t, x9.toNatClampNeg, .inr (.inr (.inr (.inr (fun _ => none)))))) j) = true := hj
      rw [va_up_ne _ _ hjn] at hj
      have : j < n9 := hq.2.2 j hj
      omega
end PH
