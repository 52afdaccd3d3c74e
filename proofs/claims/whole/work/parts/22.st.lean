/-! the heap behind the constructors, as a memory -/
def pd_0 : pd_V := fun a => ct_row (ct_h a)
def pd_g : Nat → Int64 := fun _ => 0
def ct_sA (t n : Nat) (e : pm_E) : Bool := match e with
  | .inl (t', n', .inl _) => Nat.beq t' t && Nat.beq n' n
  | _ => false
def ct_sQ (e : pm_E) : Bool := match e with
  | .inl (t', n', .inr (.inr (.inr (.inr _)))) => Nat.beq t' 3 && Nat.beq n' 80
  | _ => false
def ct_sO (ci : Nat) (F : (Nat → Int32) → List Value) (e : pm_E) : Bool := match e with
  | .inr (c, fs) => Nat.beq c ci && decide (F (ct_row e) = fs)
  | _ => false
theorem ct_A {t n : Nat} {e : pm_E} (h : ct_sA t n e = true) : e = .inl (t, n, .inl (ct_row e)) := by
  rcases e with ⟨t', n', f⟩ | e
  rotate_left
  · exact nomatch (show false = true from h)
  rcases f with f | f
  rotate_left
  · exact nomatch (show false = true from h)
  have h : (Nat.beq t' t && Nat.beq n' n) = true := h
  simp only [Bool.and_eq_true] at h
  have h1 := Nat.eq_of_beq_eq_true h.1
  have h2 := Nat.eq_of_beq_eq_true h.2
  subst h1 h2
  rfl
theorem ct_O {ci : Nat} {F : (Nat → Int32) → List Value} {e : pm_E} (h : ct_sO ci F e = true) : e = .inr (ci, F (ct_row e)) := by
  rcases e with e | ⟨c, fs⟩
  · exact nomatch (show false = true from h)
  have h : (Nat.beq c ci && decide (F (ct_row (.inr (c, fs))) = fs)) = true := h
  simp only [Bool.and_eq_true, decide_eq_true_eq] at h
  have h1 := Nat.eq_of_beq_eq_true h.1
  subst h1
  rw [h.2]
theorem ct_Q {a : Nat} (h : ct_sQ (ct_h a) = true) : ct_h a = .inl (3, 80, .inr (.inr (.inr (.inr (ct_f a))))) := by
  unfold ct_f
  generalize ct_h a = e at h ⊢
  rcases e with ⟨t', n', f⟩ | e
  rotate_left
  · exact nomatch (show false = true from h)
  rcases f with f | f | f | f | f
  · exact nomatch (show false = true from h)
  · exact nomatch (show false = true from h)
  · exact nomatch (show false = true from h)
  · exact nomatch (show false = true from h)
  have h : (Nat.beq t' 3 && Nat.beq n' 80) = true := h
  simp only [Bool.and_eq_true] at h
  have h1 := Nat.eq_of_beq_eq_true h.1
  have h2 := Nat.eq_of_beq_eq_true h.2
  subst h1 h2
  rfl
def ct_cl : List Bool := [ct_sO 0 F_De (ct_h 0), ct_sO 1 F_Re (ct_h 1), ct_sA 0 160 (ct_h 2), ct_sO 2 (F_Ke 3) (ct_h 3), ct_sQ (ct_h 4), ct_sA 0 160 (ct_h 5), ct_sA 0 160 (ct_h 6), ct_sA 0 4 (ct_h 87), ct_sO 2 (F_Ke 88) (ct_h 88), ct_sQ (ct_h 89), ct_sA 0 160 (ct_h 90), ct_sA 0 160 (ct_h 91), ct_sA 0 16 (ct_h 172), ct_sO 4 F_To (ct_h 173), ct_sO 5 (F_Cr 174) (ct_h 174), ct_sA 0 16 (ct_h 175), ct_sA 0 64 (ct_h 176), ct_sA 0 64 (ct_h 177), ct_sA 0 160 (ct_h 178), ct_sA 0 8 (ct_h 179), ct_sA 0 8 (ct_h 180), ct_sA 0 8 (ct_h 181), ct_sA 0 8 (ct_h 182), ct_sA 0 8 (ct_h 183), ct_sA 0 4 (ct_h 184), ct_sA 0 4 (ct_h 185), ct_sO 6 F_Ap (ct_h 186), ct_sO 5 (F_Cr 187) (ct_h 187), ct_sA 0 16 (ct_h 188), ct_sA 0 64 (ct_h 189), ct_sA 0 64 (ct_h 190), ct_sA 0 160 (ct_h 191), ct_sA 0 8 (ct_h 192), ct_sA 0 8 (ct_h 193), ct_sA 0 8 (ct_h 194), ct_sA 0 8 (ct_h 195), ct_sA 0 8 (ct_h 196), ct_sA 0 8 (ct_h 197), ct_sO 7 F_Mo (ct_h 198), ct_sA 0 160 (ct_h 199), ct_sA 0 160 (ct_h 200), ct_sA 2 8 (ct_h 201), ct_sA 2 8 (ct_h 202), ct_sA 0 16 (ct_h 203), ct_sA 0 128 (ct_h 204), ct_sA 0 128 (ct_h 205), ct_sA 0 320 (ct_h 206), ct_sA 0 16 (ct_h 207), ct_sA 0 16 (ct_h 208), ct_sA 2 16 (ct_h 209), ct_sA 0 8 (ct_h 210), ct_sA 0 8 (ct_h 211), ct_sA 0 40 (ct_h 212), ct_sA 0 8 (ct_h 213), ct_sA 0 8 (ct_h 214), ct_sA 2 8 (ct_h 215), ct_sA 0 5 (ct_h 216), ct_sA 0 5 (ct_h 217), ct_sA 0 5 (ct_h 218), ct_sA 0 6 (ct_h 219), ct_sA 0 6 (ct_h 220), ct_sA 0 6 (ct_h 221), true, (List.range 80).all (fun j => ct_sO 3 F_St (ct_h (7 + j))), (List.range 80).all (fun j => ct_sO 3 F_St (ct_h (92 + j)))]
set_option maxRecDepth 100000 in
theorem ct_all : ct_cl.all (fun q => q) = true := by decide +kernel
theorem ct_at (i : Nat) {q : Bool} (h : ct_cl[i]? = some q) : q = true := List.all_eq_true.mp ct_all q (List.mem_of_getElem? h)
theorem ct_s1 {a : Nat} (h1 : 7 ≤ a) (h2 : a < 87) : ct_h a = .inr (3, F_St (pd_0 a)) := by
  have h := List.all_eq_true.mp (ct_at 63 rfl) (a - 7) (List.mem_range.mpr (by omega))
  have e : 7 + (a - 7) = a := by omega
  rw [e] at h
  exact ct_O h
theorem ct_s2 {a : Nat} (h1 : 92 ≤ a) (h2 : a < 172) : ct_h a = .inr (3, F_St (pd_0 a)) := by
  have h := List.all_eq_true.mp (ct_at 64 rfl) (a - 92) (List.mem_range.mpr (by omega))
  have e : 92 + (a - 92) = a := by omega
  rw [e] at h
  exact ct_O h
theorem ct_pt : ct_h = pd_H pd_g pd_0 := by
  funext a
  show ct_h a = pd_c pd_g a (pd_0 a)
  by_cases s1 : 7 ≤ a ∧ a < 87
  · rw [c_st (Or.inl s1)]; exact ct_s1 s1.1 s1.2
  by_cases s2 : 92 ≤ a ∧ a < 172
  · rw [c_st (Or.inr s2)]; exact ct_s2 s2.1 s2.2
  by_cases n : 223 ≤ a
  · unfold pd_c
    rw [pd_bf (show 7 ≤ a by omega), pd_bf (show 87 ≤ a by omega), pd_bf (show 92 ≤ a by omega), pd_bf (show 172 ≤ a by omega), pd_bf n]
    rfl
  by_cases e0 : a = 0
  · subst e0; exact ct_O (ct_at 0 (q := ct_sO 0 F_De (ct_h 0)) rfl)
  by_cases e1 : a = 1
  · subst e1; exact ct_O (ct_at 1 (q := ct_sO 1 F_Re (ct_h 1)) rfl)
  by_cases e2 : a = 2
  · subst e2; exact ct_A (ct_at 2 (q := ct_sA 0 160 (ct_h 2)) rfl)
  by_cases e3 : a = 3
  · subst e3; exact ct_O (ct_at 3 (q := ct_sO 2 (F_Ke 3) (ct_h 3)) rfl)
  by_cases e4 : a = 4
  · subst e4; exact ct_Q (ct_at 4 (q := ct_sQ (ct_h 4)) rfl)
  by_cases e5 : a = 5
  · subst e5; exact ct_A (ct_at 5 (q := ct_sA 0 160 (ct_h 5)) rfl)
  by_cases e6 : a = 6
  · subst e6; exact ct_A (ct_at 6 (q := ct_sA 0 160 (ct_h 6)) rfl)
  by_cases e87 : a = 87
  · subst e87; exact ct_A (ct_at 7 (q := ct_sA 0 4 (ct_h 87)) rfl)
  by_cases e88 : a = 88
  · subst e88; exact ct_O (ct_at 8 (q := ct_sO 2 (F_Ke 88) (ct_h 88)) rfl)
  by_cases e89 : a = 89
  · subst e89; exact ct_Q (ct_at 9 (q := ct_sQ (ct_h 89)) rfl)
  by_cases e90 : a = 90
  · subst e90; exact ct_A (ct_at 10 (q := ct_sA 0 160 (ct_h 90)) rfl)
  by_cases e91 : a = 91
  · subst e91; exact ct_A (ct_at 11 (q := ct_sA 0 160 (ct_h 91)) rfl)
  by_cases e172 : a = 172
  · subst e172; exact ct_A (ct_at 12 (q := ct_sA 0 16 (ct_h 172)) rfl)
  by_cases e173 : a = 173
  · subst e173; exact ct_O (ct_at 13 (q := ct_sO 4 F_To (ct_h 173)) rfl)
  by_cases e174 : a = 174
  · subst e174; exact ct_O (ct_at 14 (q := ct_sO 5 (F_Cr 174) (ct_h 174)) rfl)
  by_cases e175 : a = 175
  · subst e175; exact ct_A (ct_at 15 (q := ct_sA 0 16 (ct_h 175)) rfl)
  by_cases e176 : a = 176
  · subst e176; exact ct_A (ct_at 16 (q := ct_sA 0 64 (ct_h 176)) rfl)
  by_cases e177 : a = 177
  · subst e177; exact ct_A (ct_at 17 (q := ct_sA 0 64 (ct_h 177)) rfl)
  by_cases e178 : a = 178
  · subst e178; exact ct_A (ct_at 18 (q := ct_sA 0 160 (ct_h 178)) rfl)
  by_cases e179 : a = 179
  · subst e179; exact ct_A (ct_at 19 (q := ct_sA 0 8 (ct_h 179)) rfl)
  by_cases e180 : a = 180
  · subst e180; exact ct_A (ct_at 20 (q := ct_sA 0 8 (ct_h 180)) rfl)
  by_cases e181 : a = 181
  · subst e181; exact ct_A (ct_at 21 (q := ct_sA 0 8 (ct_h 181)) rfl)
  by_cases e182 : a = 182
  · subst e182; exact ct_A (ct_at 22 (q := ct_sA 0 8 (ct_h 182)) rfl)
  by_cases e183 : a = 183
  · subst e183; exact ct_A (ct_at 23 (q := ct_sA 0 8 (ct_h 183)) rfl)
  by_cases e184 : a = 184
  · subst e184; exact ct_A (ct_at 24 (q := ct_sA 0 4 (ct_h 184)) rfl)
  by_cases e185 : a = 185
  · subst e185; exact ct_A (ct_at 25 (q := ct_sA 0 4 (ct_h 185)) rfl)
  by_cases e186 : a = 186
  · subst e186; exact ct_O (ct_at 26 (q := ct_sO 6 F_Ap (ct_h 186)) rfl)
  by_cases e187 : a = 187
  · subst e187; exact ct_O (ct_at 27 (q := ct_sO 5 (F_Cr 187) (ct_h 187)) rfl)
  by_cases e188 : a = 188
  · subst e188; exact ct_A (ct_at 28 (q := ct_sA 0 16 (ct_h 188)) rfl)
  by_cases e189 : a = 189
  · subst e189; exact ct_A (ct_at 29 (q := ct_sA 0 64 (ct_h 189)) rfl)
  by_cases e190 : a = 190
  · subst e190; exact ct_A (ct_at 30 (q := ct_sA 0 64 (ct_h 190)) rfl)
  by_cases e191 : a = 191
  · subst e191; exact ct_A (ct_at 31 (q := ct_sA 0 160 (ct_h 191)) rfl)
  by_cases e192 : a = 192
  · subst e192; exact ct_A (ct_at 32 (q := ct_sA 0 8 (ct_h 192)) rfl)
  by_cases e193 : a = 193
  · subst e193; exact ct_A (ct_at 33 (q := ct_sA 0 8 (ct_h 193)) rfl)
  by_cases e194 : a = 194
  · subst e194; exact ct_A (ct_at 34 (q := ct_sA 0 8 (ct_h 194)) rfl)
  by_cases e195 : a = 195
  · subst e195; exact ct_A (ct_at 35 (q := ct_sA 0 8 (ct_h 195)) rfl)
  by_cases e196 : a = 196
  · subst e196; exact ct_A (ct_at 36 (q := ct_sA 0 8 (ct_h 196)) rfl)
  by_cases e197 : a = 197
  · subst e197; exact ct_A (ct_at 37 (q := ct_sA 0 8 (ct_h 197)) rfl)
  by_cases e198 : a = 198
  · subst e198; exact ct_O (ct_at 38 (q := ct_sO 7 F_Mo (ct_h 198)) rfl)
  by_cases e199 : a = 199
  · subst e199; exact ct_A (ct_at 39 (q := ct_sA 0 160 (ct_h 199)) rfl)
  by_cases e200 : a = 200
  · subst e200; exact ct_A (ct_at 40 (q := ct_sA 0 160 (ct_h 200)) rfl)
  by_cases e201 : a = 201
  · subst e201; exact ct_A (ct_at 41 (q := ct_sA 2 8 (ct_h 201)) rfl)
  by_cases e202 : a = 202
  · subst e202; exact ct_A (ct_at 42 (q := ct_sA 2 8 (ct_h 202)) rfl)
  by_cases e203 : a = 203
  · subst e203; exact ct_A (ct_at 43 (q := ct_sA 0 16 (ct_h 203)) rfl)
  by_cases e204 : a = 204
  · subst e204; exact ct_A (ct_at 44 (q := ct_sA 0 128 (ct_h 204)) rfl)
  by_cases e205 : a = 205
  · subst e205; exact ct_A (ct_at 45 (q := ct_sA 0 128 (ct_h 205)) rfl)
  by_cases e206 : a = 206
  · subst e206; exact ct_A (ct_at 46 (q := ct_sA 0 320 (ct_h 206)) rfl)
  by_cases e207 : a = 207
  · subst e207; exact ct_A (ct_at 47 (q := ct_sA 0 16 (ct_h 207)) rfl)
  by_cases e208 : a = 208
  · subst e208; exact ct_A (ct_at 48 (q := ct_sA 0 16 (ct_h 208)) rfl)
  by_cases e209 : a = 209
  · subst e209; exact ct_A (ct_at 49 (q := ct_sA 2 16 (ct_h 209)) rfl)
  by_cases e210 : a = 210
  · subst e210; exact ct_A (ct_at 50 (q := ct_sA 0 8 (ct_h 210)) rfl)
  by_cases e211 : a = 211
  · subst e211; exact ct_A (ct_at 51 (q := ct_sA 0 8 (ct_h 211)) rfl)
  by_cases e212 : a = 212
  · subst e212; exact ct_A (ct_at 52 (q := ct_sA 0 40 (ct_h 212)) rfl)
  by_cases e213 : a = 213
  · subst e213; exact ct_A (ct_at 53 (q := ct_sA 0 8 (ct_h 213)) rfl)
  by_cases e214 : a = 214
  · subst e214; exact ct_A (ct_at 54 (q := ct_sA 0 8 (ct_h 214)) rfl)
  by_cases e215 : a = 215
  · subst e215; exact ct_A (ct_at 55 (q := ct_sA 2 8 (ct_h 215)) rfl)
  by_cases e216 : a = 216
  · subst e216; exact ct_A (ct_at 56 (q := ct_sA 0 5 (ct_h 216)) rfl)
  by_cases e217 : a = 217
  · subst e217; exact ct_A (ct_at 57 (q := ct_sA 0 5 (ct_h 217)) rfl)
  by_cases e218 : a = 218
  · subst e218; exact ct_A (ct_at 58 (q := ct_sA 0 5 (ct_h 218)) rfl)
  by_cases e219 : a = 219
  · subst e219; exact ct_A (ct_at 59 (q := ct_sA 0 6 (ct_h 219)) rfl)
  by_cases e220 : a = 220
  · subst e220; exact ct_A (ct_at 60 (q := ct_sA 0 6 (ct_h 220)) rfl)
  by_cases e221 : a = 221
  · subst e221; exact ct_A (ct_at 61 (q := ct_sA 0 6 (ct_h 221)) rfl)
  have e222 : a = 222 := by omega
  subst e222; exact va_up_self _ _ _
