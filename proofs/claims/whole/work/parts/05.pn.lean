/-! what only grows: cells and slots made; offsets at most as fast as cells -/
def pm_le (h h' : pm_H) : Prop := h.2.1 ≤ h'.2.1 ∧ h.2.2.1 ≤ h'.2.2.1 ∧ h'.1 + h.2.1 ≤ h.1 + h'.2.1
theorem pm_le.rf {h : pm_H} : pm_le h h := ⟨Nat.le_refl _, Nat.le_refl _, Nat.le_refl _⟩
theorem pm_le.tr {a b c : pm_H} (h1 : pm_le a b) (h2 : pm_le b c) : pm_le a c := ⟨Nat.le_trans h1.1 h2.1, Nat.le_trans h1.2.1 h2.2.1, by have := h1.2.2; have := h2.2.2; omega⟩
theorem pm_le_n (n kc : Nat) : n + 1 + kc ≤ n + (kc + 1) := by omega
def pm_mo (g : pm_S → Option pm_S) : Prop := ∀ S S' : pm_S, g S = some S' → pm_le S.2.2.2 S'.2.2.2
/-- of an instruction: what it goes to, calls with, ends with -/
def pm_MO (I : pm_I) : Prop := ∀ S : pm_S, (∀ S', I S = .inl S' → pm_le S.2.2.2 S'.2.2.2) ∧ (∀ j as S', I S = .inr (.inl (j, as, S')) → S'.2.2.2 = S.2.2.2) ∧ (∀ o, I S = .inr (.inr (some o)) → pm_le S.2.2.2 o.2)
theorem pi_go_inl {g : pm_S → Option pm_S} {S S' : pm_S} (h : pi_go g S = .inl S') : g S = some S' := by
  unfold pi_go at h
  generalize g S = q at h
  cases q
  · exact nomatch (show (Sum.inr (Sum.inr none) : pm_R) = .inl S' from h)
  · cases (show (Sum.inl _ : pm_R) = .inl S' from h)
    rfl
theorem pi_go_no {g : pm_S → Option pm_S} {S : pm_S} {x : (Nat × List Value × pm_S) ⊕ Option pm_O} (h : pi_go g S = .inr x) : x = .inr none := by
  unfold pi_go at h
  generalize g S = q at h
  cases q
  · cases (show (Sum.inr (Sum.inr none) : pm_R) = .inr x from h)
    rfl
  · exact nomatch (show (Sum.inl _ : pm_R) = .inr x from h)
theorem pm_MO.go {g : pm_S → Option pm_S} (h : pm_mo g) : pm_MO (pi_go g) := fun S =>
  ⟨fun S' q => h S S' (pi_go_inl q), fun j as S' q => (nomatch (pi_go_no q)), fun o q => (nomatch (pi_go_no q))⟩
theorem mo_c (v : Value) (len : Nat) : pm_mo (pg_c v len) := by
  intro S S' h
  unfold pg_c at h
  repeat' split at h
  all_goals first
    | (cases h; done)
    | (cases h; exact pm_le.rf)
    | (obtain ⟨-, rfl⟩ := pm_bif h; exact pm_le.rf)
    | (obtain ⟨-, rfl⟩ := pm_bif h; exact ⟨Nat.le_succ _, Nat.le_add_right _ _, pm_le_n _ _⟩)
    | (exfalso; revert h; cases Nat.beq _ _ <;> (intro h; cases h; done))
theorem mo_iload (i len : Nat) : pm_mo (pg_iload i len) := by
  intro S S' h
  unfold pg_iload at h
  repeat' split at h
  all_goals first
    | (cases h; done)
    | (cases h; exact pm_le.rf)
    | (obtain ⟨-, rfl⟩ := pm_bif h; exact pm_le.rf)
    | (obtain ⟨-, rfl⟩ := pm_bif h; exact ⟨Nat.le_succ _, Nat.le_add_right _ _, pm_le_n _ _⟩)
    | (exfalso; revert h; cases Nat.beq _ _ <;> (intro h; cases h; done))
theorem mo_lload (i len : Nat) : pm_mo (pg_lload i len) := by
  intro S S' h
  unfold pg_lload at h
  repeat' split at h
  all_goals first
    | (cases h; done)
    | (cases h; exact pm_le.rf)
    | (obtain ⟨-, rfl⟩ := pm_bif h; exact pm_le.rf)
    | (obtain ⟨-, rfl⟩ := pm_bif h; exact ⟨Nat.le_succ _, Nat.le_add_right _ _, pm_le_n _ _⟩)
    | (exfalso; revert h; cases Nat.beq _ _ <;> (intro h; cases h; done))
theorem mo_aload (i len : Nat) : pm_mo (pg_aload i len) := by
  intro S S' h
  unfold pg_aload at h
  repeat' split at h
  all_goals first
    | (cases h; done)
    | (cases h; exact pm_le.rf)
    | (obtain ⟨-, rfl⟩ := pm_bif h; exact pm_le.rf)
    | (obtain ⟨-, rfl⟩ := pm_bif h; exact ⟨Nat.le_succ _, Nat.le_add_right _ _, pm_le_n _ _⟩)
    | (exfalso; revert h; cases Nat.beq _ _ <;> (intro h; cases h; done))
theorem mo_istore (i len : Nat) : pm_mo (pg_istore i len) := by
  intro S S' h
  unfold pg_istore at h
  repeat' split at h
  all_goals first
    | (cases h; done)
    | (cases h; exact pm_le.rf)
    | (obtain ⟨-, rfl⟩ := pm_bif h; exact pm_le.rf)
    | (obtain ⟨-, rfl⟩ := pm_bif h; exact ⟨Nat.le_succ _, Nat.le_add_right _ _, pm_le_n _ _⟩)
    | (exfalso; revert h; cases Nat.beq _ _ <;> (intro h; cases h; done))
theorem mo_astore (i len : Nat) : pm_mo (pg_astore i len) := by
  intro S S' h
  unfold pg_astore at h
  repeat' split at h
  all_goals first
    | (cases h; done)
    | (cases h; exact pm_le.rf)
    | (obtain ⟨-, rfl⟩ := pm_bif h; exact pm_le.rf)
    | (obtain ⟨-, rfl⟩ := pm_bif h; exact ⟨Nat.le_succ _, Nat.le_add_right _ _, pm_le_n _ _⟩)
    | (exfalso; revert h; cases Nat.beq _ _ <;> (intro h; cases h; done))
theorem mo_lstore (i len : Nat) : pm_mo (pg_lstore i len) := by
  intro S S' h
  unfold pg_lstore at h
  repeat' split at h
  all_goals first
    | (cases h; done)
    | (cases h; exact pm_le.rf)
    | (obtain ⟨-, rfl⟩ := pm_bif h; exact pm_le.rf)
    | (obtain ⟨-, rfl⟩ := pm_bif h; exact ⟨Nat.le_succ _, Nat.le_add_right _ _, pm_le_n _ _⟩)
    | (exfalso; revert h; cases Nat.beq _ _ <;> (intro h; cases h; done))
theorem mo_iinc (i : Nat) (n : Int32) (len : Nat) : pm_mo (pg_iinc i n len) := by
  intro S S' h
  unfold pg_iinc at h
  repeat' split at h
  all_goals first
    | (cases h; done)
    | (cases h; exact pm_le.rf)
    | (obtain ⟨-, rfl⟩ := pm_bif h; exact pm_le.rf)
    | (obtain ⟨-, rfl⟩ := pm_bif h; exact ⟨Nat.le_succ _, Nat.le_add_right _ _, pm_le_n _ _⟩)
    | (exfalso; revert h; cases Nat.beq _ _ <;> (intro h; cases h; done))
theorem mo_i2 (f : Int32 → Int32 → Int32) : pm_mo (pg_i2 f) := by
  intro S S' h
  unfold pg_i2 at h
  repeat' split at h
  all_goals first
    | (cases h; done)
    | (cases h; exact pm_le.rf)
    | (obtain ⟨-, rfl⟩ := pm_bif h; exact pm_le.rf)
    | (obtain ⟨-, rfl⟩ := pm_bif h; exact ⟨Nat.le_succ _, Nat.le_add_right _ _, pm_le_n _ _⟩)
    | (exfalso; revert h; cases Nat.beq _ _ <;> (intro h; cases h; done))
theorem mo_i1 (f : Int32 → Int32) : pm_mo (pg_i1 f) := by
  intro S S' h
  unfold pg_i1 at h
  repeat' split at h
  all_goals first
    | (cases h; done)
    | (cases h; exact pm_le.rf)
    | (obtain ⟨-, rfl⟩ := pm_bif h; exact pm_le.rf)
    | (obtain ⟨-, rfl⟩ := pm_bif h; exact ⟨Nat.le_succ _, Nat.le_add_right _ _, pm_le_n _ _⟩)
    | (exfalso; revert h; cases Nat.beq _ _ <;> (intro h; cases h; done))
theorem mo_l2 (f : Int64 → Int64 → Int64) : pm_mo (pg_l2 f) := by
  intro S S' h
  unfold pg_l2 at h
  repeat' split at h
  all_goals first
    | (cases h; done)
    | (cases h; exact pm_le.rf)
    | (obtain ⟨-, rfl⟩ := pm_bif h; exact pm_le.rf)
    | (obtain ⟨-, rfl⟩ := pm_bif h; exact ⟨Nat.le_succ _, Nat.le_add_right _ _, pm_le_n _ _⟩)
    | (exfalso; revert h; cases Nat.beq _ _ <;> (intro h; cases h; done))
theorem mo_il (f : Int32 → Int64) : pm_mo (pg_il f) := by
  intro S S' h
  unfold pg_il at h
  repeat' split at h
  all_goals first
    | (cases h; done)
    | (cases h; exact pm_le.rf)
    | (obtain ⟨-, rfl⟩ := pm_bif h; exact pm_le.rf)
    | (obtain ⟨-, rfl⟩ := pm_bif h; exact ⟨Nat.le_succ _, Nat.le_add_right _ _, pm_le_n _ _⟩)
    | (exfalso; revert h; cases Nat.beq _ _ <;> (intro h; cases h; done))
theorem mo_li (f : Int64 → Int32) : pm_mo (pg_li f) := by
  intro S S' h
  unfold pg_li at h
  repeat' split at h
  all_goals first
    | (cases h; done)
    | (cases h; exact pm_le.rf)
    | (obtain ⟨-, rfl⟩ := pm_bif h; exact pm_le.rf)
    | (obtain ⟨-, rfl⟩ := pm_bif h; exact ⟨Nat.le_succ _, Nat.le_add_right _ _, pm_le_n _ _⟩)
    | (exfalso; revert h; cases Nat.beq _ _ <;> (intro h; cases h; done))
theorem mo_ls (f : Int64 → Int32 → Int64) : pm_mo (pg_ls f) := by
  intro S S' h
  unfold pg_ls at h
  repeat' split at h
  all_goals first
    | (cases h; done)
    | (cases h; exact pm_le.rf)
    | (obtain ⟨-, rfl⟩ := pm_bif h; exact pm_le.rf)
    | (obtain ⟨-, rfl⟩ := pm_bif h; exact ⟨Nat.le_succ _, Nat.le_add_right _ _, pm_le_n _ _⟩)
    | (exfalso; revert h; cases Nat.beq _ _ <;> (intro h; cases h; done))
theorem mo_ll (f : Int64 → Int64 → Int32) : pm_mo (pg_ll f) := by
  intro S S' h
  unfold pg_ll at h
  repeat' split at h
  all_goals first
    | (cases h; done)
    | (cases h; exact pm_le.rf)
    | (obtain ⟨-, rfl⟩ := pm_bif h; exact pm_le.rf)
    | (obtain ⟨-, rfl⟩ := pm_bif h; exact ⟨Nat.le_succ _, Nat.le_add_right _ _, pm_le_n _ _⟩)
    | (exfalso; revert h; cases Nat.beq _ _ <;> (intro h; cases h; done))
theorem mo_if (f : Int32 → Bool) (tgt : Nat) : pm_mo (pg_if f tgt) := by
  intro S S' h
  unfold pg_if at h
  repeat' split at h
  all_goals first
    | (cases h; done)
    | (cases h; exact pm_le.rf)
    | (obtain ⟨-, rfl⟩ := pm_bif h; exact pm_le.rf)
    | (obtain ⟨-, rfl⟩ := pm_bif h; exact ⟨Nat.le_succ _, Nat.le_add_right _ _, pm_le_n _ _⟩)
    | (exfalso; revert h; cases Nat.beq _ _ <;> (intro h; cases h; done))
theorem mo_icmp (f : Int32 → Int32 → Bool) (tgt : Nat) : pm_mo (pg_icmp f tgt) := by
  intro S S' h
  unfold pg_icmp at h
  repeat' split at h
  all_goals first
    | (cases h; done)
    | (cases h; exact pm_le.rf)
    | (obtain ⟨-, rfl⟩ := pm_bif h; exact pm_le.rf)
    | (obtain ⟨-, rfl⟩ := pm_bif h; exact ⟨Nat.le_succ _, Nat.le_add_right _ _, pm_le_n _ _⟩)
    | (exfalso; revert h; cases Nat.beq _ _ <;> (intro h; cases h; done))
theorem mo_goto (tgt : Nat) : pm_mo (pg_goto tgt) := by
  intro S S' h
  unfold pg_goto at h
  repeat' split at h
  all_goals first
    | (cases h; done)
    | (cases h; exact pm_le.rf)
    | (obtain ⟨-, rfl⟩ := pm_bif h; exact pm_le.rf)
    | (obtain ⟨-, rfl⟩ := pm_bif h; exact ⟨Nat.le_succ _, Nat.le_add_right _ _, pm_le_n _ _⟩)
    | (exfalso; revert h; cases Nat.beq _ _ <;> (intro h; cases h; done))
theorem mo_sw (f : Int32 → Nat) : pm_mo (pg_sw f) := by
  intro S S' h
  unfold pg_sw at h
  repeat' split at h
  all_goals first
    | (cases h; done)
    | (cases h; exact pm_le.rf)
    | (obtain ⟨-, rfl⟩ := pm_bif h; exact pm_le.rf)
    | (obtain ⟨-, rfl⟩ := pm_bif h; exact ⟨Nat.le_succ _, Nat.le_add_right _ _, pm_le_n _ _⟩)
    | (exfalso; revert h; cases Nat.beq _ _ <;> (intro h; cases h; done))
theorem mo_dup  : pm_mo (pg_dup) := by
  intro S S' h
  unfold pg_dup at h
  repeat' split at h
  all_goals first
    | (cases h; done)
    | (cases h; exact pm_le.rf)
    | (obtain ⟨-, rfl⟩ := pm_bif h; exact pm_le.rf)
    | (obtain ⟨-, rfl⟩ := pm_bif h; exact ⟨Nat.le_succ _, Nat.le_add_right _ _, pm_le_n _ _⟩)
    | (exfalso; revert h; cases Nat.beq _ _ <;> (intro h; cases h; done))
theorem mo_pop  : pm_mo (pg_pop) := by
  intro S S' h
  unfold pg_pop at h
  repeat' split at h
  all_goals first
    | (cases h; done)
    | (cases h; exact pm_le.rf)
    | (obtain ⟨-, rfl⟩ := pm_bif h; exact pm_le.rf)
    | (obtain ⟨-, rfl⟩ := pm_bif h; exact ⟨Nat.le_succ _, Nat.le_add_right _ _, pm_le_n _ _⟩)
    | (exfalso; revert h; cases Nat.beq _ _ <;> (intro h; cases h; done))
theorem mo_dup_x1  : pm_mo (pg_dup_x1) := by
  intro S S' h
  unfold pg_dup_x1 at h
  repeat' split at h
  all_goals first
    | (cases h; done)
    | (cases h; exact pm_le.rf)
    | (obtain ⟨-, rfl⟩ := pm_bif h; exact pm_le.rf)
    | (obtain ⟨-, rfl⟩ := pm_bif h; exact ⟨Nat.le_succ _, Nat.le_add_right _ _, pm_le_n _ _⟩)
    | (exfalso; revert h; cases Nat.beq _ _ <;> (intro h; cases h; done))
theorem mo_dup_x2  : pm_mo (pg_dup_x2) := by
  intro S S' h
  unfold pg_dup_x2 at h
  repeat' split at h
  all_goals first
    | (cases h; done)
    | (cases h; exact pm_le.rf)
    | (obtain ⟨-, rfl⟩ := pm_bif h; exact pm_le.rf)
    | (obtain ⟨-, rfl⟩ := pm_bif h; exact ⟨Nat.le_succ _, Nat.le_add_right _ _, pm_le_n _ _⟩)
    | (exfalso; revert h; cases Nat.beq _ _ <;> (intro h; cases h; done))
theorem mo_dup2  : pm_mo (pg_dup2) := by
  intro S S' h
  unfold pg_dup2 at h
  repeat' split at h
  all_goals first
    | (cases h; done)
    | (cases h; exact pm_le.rf)
    | (obtain ⟨-, rfl⟩ := pm_bif h; exact pm_le.rf)
    | (obtain ⟨-, rfl⟩ := pm_bif h; exact ⟨Nat.le_succ _, Nat.le_add_right _ _, pm_le_n _ _⟩)
    | (exfalso; revert h; cases Nat.beq _ _ <;> (intro h; cases h; done))
theorem mo_get (ci k : Nat) : pm_mo (pg_get ci k) := by
  intro S S' h
  unfold pg_get at h
  repeat' split at h
  all_goals first
    | (cases h; done)
    | (cases h; exact pm_le.rf)
    | (obtain ⟨-, rfl⟩ := pm_bif h; exact pm_le.rf)
    | (obtain ⟨-, rfl⟩ := pm_bif h; exact ⟨Nat.le_succ _, Nat.le_add_right _ _, pm_le_n _ _⟩)
    | (exfalso; revert h; cases Nat.beq _ _ <;> (intro h; cases h; done))
theorem mo_put (ci k ty : Nat) : pm_mo (pg_put ci k ty) := by
  intro S S' h
  unfold pg_put at h
  repeat' split at h
  all_goals first
    | (cases h; done)
    | (cases h; exact pm_le.rf)
    | (obtain ⟨-, rfl⟩ := pm_bif h; exact pm_le.rf)
    | (obtain ⟨-, rfl⟩ := pm_bif h; exact ⟨Nat.le_succ _, Nat.le_add_right _ _, pm_le_n _ _⟩)
    | (exfalso; revert h; cases Nat.beq _ _ <;> (intro h; cases h; done))
theorem mo_iald  : pm_mo (pg_iald) := by
  intro S S' h
  unfold pg_iald at h
  repeat' split at h
  all_goals first
    | (cases h; done)
    | (cases h; exact pm_le.rf)
    | (obtain ⟨-, rfl⟩ := pm_bif h; exact pm_le.rf)
    | (obtain ⟨-, rfl⟩ := pm_bif h; exact ⟨Nat.le_succ _, Nat.le_add_right _ _, pm_le_n _ _⟩)
    | (exfalso; revert h; cases Nat.beq _ _ <;> (intro h; cases h; done))
theorem mo_iast  : pm_mo (pg_iast) := by
  intro S S' h
  unfold pg_iast at h
  repeat' split at h
  all_goals first
    | (cases h; done)
    | (cases h; exact pm_le.rf)
    | (obtain ⟨-, rfl⟩ := pm_bif h; exact pm_le.rf)
    | (obtain ⟨-, rfl⟩ := pm_bif h; exact ⟨Nat.le_succ _, Nat.le_add_right _ _, pm_le_n _ _⟩)
    | (exfalso; revert h; cases Nat.beq _ _ <;> (intro h; cases h; done))
theorem mo_lald  : pm_mo (pg_lald) := by
  intro S S' h
  unfold pg_lald at h
  repeat' split at h
  all_goals first
    | (cases h; done)
    | (cases h; exact pm_le.rf)
    | (obtain ⟨-, rfl⟩ := pm_bif h; exact pm_le.rf)
    | (obtain ⟨-, rfl⟩ := pm_bif h; exact ⟨Nat.le_succ _, Nat.le_add_right _ _, pm_le_n _ _⟩)
    | (exfalso; revert h; cases Nat.beq _ _ <;> (intro h; cases h; done))
theorem mo_zald  : pm_mo (pg_zald) := by
  intro S S' h
  unfold pg_zald at h
  repeat' split at h
  all_goals first
    | (cases h; done)
    | (cases h; exact pm_le.rf)
    | (obtain ⟨-, rfl⟩ := pm_bif h; exact pm_le.rf)
    | (obtain ⟨-, rfl⟩ := pm_bif h; exact ⟨Nat.le_succ _, Nat.le_add_right _ _, pm_le_n _ _⟩)
    | (exfalso; revert h; cases Nat.beq _ _ <;> (intro h; cases h; done))
theorem mo_zast  : pm_mo (pg_zast) := by
  intro S S' h
  unfold pg_zast at h
  repeat' split at h
  all_goals first
    | (cases h; done)
    | (cases h; exact pm_le.rf)
    | (obtain ⟨-, rfl⟩ := pm_bif h; exact pm_le.rf)
    | (obtain ⟨-, rfl⟩ := pm_bif h; exact ⟨Nat.le_succ _, Nat.le_add_right _ _, pm_le_n _ _⟩)
    | (exfalso; revert h; cases Nat.beq _ _ <;> (intro h; cases h; done))
theorem mo_newz  : pm_mo (pg_newz) := by
  intro S S' h
  unfold pg_newz at h
  repeat' split at h
  all_goals first
    | (cases h; done)
    | (cases h; exact pm_le.rf)
    | (obtain ⟨-, rfl⟩ := pm_bif h; exact pm_le.rf)
    | (obtain ⟨-, rfl⟩ := pm_bif h; exact ⟨Nat.le_succ _, Nat.le_add_right _ _, pm_le_n _ _⟩)
    | (exfalso; revert h; cases Nat.beq _ _ <;> (intro h; cases h; done))
theorem mo_last  : pm_mo (pg_last) := by
  intro S S' h
  unfold pg_last at h
  repeat' split at h
  all_goals first
    | (cases h; done)
    | (cases h; exact pm_le.rf)
    | (obtain ⟨-, rfl⟩ := pm_bif h; exact pm_le.rf)
    | (obtain ⟨-, rfl⟩ := pm_bif h; exact ⟨Nat.le_succ _, Nat.le_add_right _ _, pm_le_n _ _⟩)
    | (exfalso; revert h; cases Nat.beq _ _ <;> (intro h; cases h; done))
theorem mo_aald (t : Nat) : pm_mo (pg_aald t) := by
  intro S S' h
  unfold pg_aald at h
  repeat' split at h
  all_goals first
    | (cases h; done)
    | (cases h; exact pm_le.rf)
    | (obtain ⟨-, rfl⟩ := pm_bif h; exact pm_le.rf)
    | (obtain ⟨-, rfl⟩ := pm_bif h; exact ⟨Nat.le_succ _, Nat.le_add_right _ _, pm_le_n _ _⟩)
    | (exfalso; revert h; cases Nat.beq _ _ <;> (intro h; cases h; done))
theorem mo_aast (t ci : Nat) : pm_mo (pg_aast t ci) := by
  intro S S' h
  unfold pg_aast at h
  repeat' split at h
  all_goals first
    | (cases h; done)
    | (cases h; exact pm_le.rf)
    | (obtain ⟨-, rfl⟩ := pm_bif h; exact pm_le.rf)
    | (obtain ⟨-, rfl⟩ := pm_bif h; exact ⟨Nat.le_succ _, Nat.le_add_right _ _, pm_le_n _ _⟩)
    | (exfalso; revert h; cases Nat.beq _ _ <;> (intro h; cases h; done))
theorem mo_alen  : pm_mo (pg_alen) := by
  intro S S' h
  unfold pg_alen at h
  repeat' split at h
  all_goals first
    | (cases h; done)
    | (cases h; exact pm_le.rf)
    | (obtain ⟨-, rfl⟩ := pm_bif h; exact pm_le.rf)
    | (obtain ⟨-, rfl⟩ := pm_bif h; exact ⟨Nat.le_succ _, Nat.le_add_right _ _, pm_le_n _ _⟩)
    | (exfalso; revert h; cases Nat.beq _ _ <;> (intro h; cases h; done))
theorem mo_sald (xs : Nat → Int32) (L : Nat) : pm_mo (pg_sald xs L) := by
  intro S S' h
  unfold pg_sald at h
  repeat' split at h
  all_goals first
    | (cases h; done)
    | (cases h; exact pm_le.rf)
    | (obtain ⟨-, rfl⟩ := pm_bif h; exact pm_le.rf)
    | (obtain ⟨-, rfl⟩ := pm_bif h; exact ⟨Nat.le_succ _, Nat.le_add_right _ _, pm_le_n _ _⟩)
    | (exfalso; revert h; cases Nat.beq _ _ <;> (intro h; cases h; done))
theorem mo_slen (L : Nat) : pm_mo (pg_slen L) := by
  intro S S' h
  unfold pg_slen at h
  repeat' split at h
  all_goals first
    | (cases h; done)
    | (cases h; exact pm_le.rf)
    | (obtain ⟨-, rfl⟩ := pm_bif h; exact pm_le.rf)
    | (obtain ⟨-, rfl⟩ := pm_bif h; exact ⟨Nat.le_succ _, Nat.le_add_right _ _, pm_le_n _ _⟩)
    | (exfalso; revert h; cases Nat.beq _ _ <;> (intro h; cases h; done))
theorem mo_new (ci N : Nat) (fs : List Value) : pm_mo (pg_new ci N fs) := by
  intro S S' h
  unfold pg_new at h
  repeat' split at h
  all_goals first
    | (cases h; done)
    | (cases h; exact pm_le.rf)
    | (obtain ⟨-, rfl⟩ := pm_bif h; exact pm_le.rf)
    | (obtain ⟨-, rfl⟩ := pm_bif h; exact ⟨Nat.le_succ _, Nat.le_add_right _ _, pm_le_n _ _⟩)
    | (exfalso; revert h; cases Nat.beq _ _ <;> (intro h; cases h; done))
theorem mo_newi  : pm_mo (pg_newi) := by
  intro S S' h
  unfold pg_newi at h
  repeat' split at h
  all_goals first
    | (cases h; done)
    | (cases h; exact pm_le.rf)
    | (obtain ⟨-, rfl⟩ := pm_bif h; exact pm_le.rf)
    | (obtain ⟨-, rfl⟩ := pm_bif h; exact ⟨Nat.le_succ _, Nat.le_add_right _ _, pm_le_n _ _⟩)
    | (exfalso; revert h; cases Nat.beq _ _ <;> (intro h; cases h; done))
theorem mo_newl  : pm_mo (pg_newl) := by
  intro S S' h
  unfold pg_newl at h
  repeat' split at h
  all_goals first
    | (cases h; done)
    | (cases h; exact pm_le.rf)
    | (obtain ⟨-, rfl⟩ := pm_bif h; exact pm_le.rf)
    | (obtain ⟨-, rfl⟩ := pm_bif h; exact ⟨Nat.le_succ _, Nat.le_add_right _ _, pm_le_n _ _⟩)
    | (exfalso; revert h; cases Nat.beq _ _ <;> (intro h; cases h; done))
theorem mo_newq (t : Nat) : pm_mo (pg_newq t) := by
  intro S S' h
  unfold pg_newq at h
  repeat' split at h
  all_goals first
    | (cases h; done)
    | (cases h; exact pm_le.rf)
    | (obtain ⟨-, rfl⟩ := pm_bif h; exact pm_le.rf)
    | (obtain ⟨-, rfl⟩ := pm_bif h; exact ⟨Nat.le_succ _, Nat.le_add_right _ _, pm_le_n _ _⟩)
    | (exfalso; revert h; cases Nat.beq _ _ <;> (intro h; cases h; done))
theorem mo_obj  : pm_mo (pg_obj) := by
  intro S S' h
  unfold pg_obj at h
  repeat' split at h
  all_goals first
    | (cases h; done)
    | (cases h; exact pm_le.rf)
    | (obtain ⟨-, rfl⟩ := pm_bif h; exact pm_le.rf)
    | (obtain ⟨-, rfl⟩ := pm_bif h; exact ⟨Nat.le_succ _, Nat.le_add_right _ _, pm_le_n _ _⟩)
    | (exfalso; revert h; cases Nat.beq _ _ <;> (intro h; cases h; done))
theorem mo_copy  : pm_mo (pg_copy) := by
  intro S S' h
  unfold pg_copy at h
  repeat' split at h
  all_goals first
    | (cases h; done)
    | (cases h; exact pm_le.rf)
    | (obtain ⟨-, rfl⟩ := pm_bif h; exact pm_le.rf)
    | (obtain ⟨-, rfl⟩ := pm_bif h; exact ⟨Nat.le_succ _, Nat.le_add_right _ _, pm_le_n _ _⟩)
    | (exfalso; revert h; cases Nat.beq _ _ <;> (intro h; cases h; done))
theorem pm_bifR {c : Bool} {x : pm_R} {y : pm_R} (h : (bif c then x else (.inr (.inr none) : pm_R)) = y) (hy : y ≠ .inr (.inr none)) : c = true ∧ x = y := by
  cases c
  · exact absurd (show (Sum.inr (Sum.inr none) : pm_R) = y from h).symm hy
  · exact ⟨rfl, h⟩
theorem pi_call_inv {j n : Nat} {S : pm_S} {y : pm_R} (h : pi_call j n S = y) (hy : y ≠ .inr (.inr none)) : (n ≤ S.2.2.1.length ∧ ((S.2.2.1.drop n).map (fun v => v.category)).sum ≤ 8) ∧ y = .inr (.inl (j, (S.2.2.1.take n).reverse, (S.1, S.2.1, S.2.2.1.drop n, S.2.2.2))) := by
  obtain ⟨pc', ls, st, hh⟩ := S
  obtain ⟨h1, h2⟩ := pm_bifR (show (bif Nat.ble n st.length && Nat.ble ((st.drop n).map (fun v => v.category)).sum 8 then (.inr (.inl (j, (st.take n).reverse, (pc', ls, st.drop n, hh))) : pm_R) else .inr (.inr none)) = y from h) hy
  rw [Bool.and_eq_true] at h1
  exact ⟨⟨Nat.le_of_ble_eq_true h1.1, Nat.le_of_ble_eq_true h1.2⟩, h2.symm⟩
theorem pi_callv_inv {j n ci : Nat} {S : pm_S} {y : pm_R} (h : pi_callv j n ci S = y) (hy : y ≠ .inr (.inr none)) : (n ≤ S.2.2.1.length ∧ ((S.2.2.1.drop n).map (fun v => v.category)).sum ≤ 8) ∧ pm_isa ci S.2.2.2 (S.2.2.1.take n).reverse = true ∧ y = .inr (.inl (j, (S.2.2.1.take n).reverse, (S.1, S.2.1, S.2.2.1.drop n, S.2.2.2))) := by
  obtain ⟨pc', ls, st, hh⟩ := S
  obtain ⟨h1, h2⟩ := pm_bifR (show (bif (Nat.ble n st.length && Nat.ble ((st.drop n).map (fun v => v.category)).sum 8) && pm_isa ci hh (st.take n).reverse then (.inr (.inl (j, (st.take n).reverse, (pc', ls, st.drop n, hh))) : pm_R) else .inr (.inr none)) = y from h) hy
  rw [Bool.and_eq_true, Bool.and_eq_true] at h1
  exact ⟨⟨Nat.le_of_ble_eq_true h1.1.1, Nat.le_of_ble_eq_true h1.1.2⟩, h1.2, h2.symm⟩
theorem mo_call (j n : Nat) : pm_MO (pi_call j n) := by
  intro S
  refine ⟨fun S' q => ?_, fun k as S' q => ?_, fun o q => ?_⟩
  · exact nomatch (pi_call_inv q (fun h => nomatch h)).2
  · have h := (pi_call_inv q (fun h => nomatch h)).2
    injection h with h; injection h with h; injection h with h1 h2; injection h2 with h2 h3
    rw [h3]
  · exact nomatch (pi_call_inv q (fun h => nomatch h)).2
theorem mo_callv (j n ci : Nat) : pm_MO (pi_callv j n ci) := by
  intro S
  refine ⟨fun S' q => ?_, fun k as S' q => ?_, fun o q => ?_⟩
  · exact nomatch (pi_callv_inv q (fun h => nomatch h)).2.2
  · have h := (pi_callv_inv q (fun h => nomatch h)).2.2
    injection h with h; injection h with h; injection h with h1 h2; injection h2 with h2 h3
    rw [h3]
  · exact nomatch (pi_callv_inv q (fun h => nomatch h)).2.2
