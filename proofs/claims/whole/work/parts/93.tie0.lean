/-! the tie of the reference's stack to rc: pure facts -/
/-- the tightness of a level's operators; what ext holds at a level; what may lie on top of a base -/
def tvK (lv : Nat) : Nat := if lv ≤ 1 then lv + 1 else lv + 2
def tvL (lv : Nat) : Nat := if lv ≤ 2 then lv + 1 else lv + 2
def tvB (lv : Nat) : Nat := if lv ≤ 1 then lv else lv + 1
/-- a base at a level -/
def Bs (lv : Nat) : List Nat → Prop
  | [] => True
  | c :: _ => c = 20 ∨ tig c ≤ tvB lv
theorem Bs_up {lv : Nat} {B : List Nat} (h : Bs lv B) : Bs (lv + 1) B := by
  cases B with
  | nil => trivial
  | cons c B =>
    refine h.imp id (fun z => Nat.le_trans z ?_)
    unfold tvB
    split <;> split <;> omega
theorem tvK_tvL (lv : Nat) : tvK lv ≤ tvL (lv + 1) ∧ tvL lv ≤ tvK lv ∧ tvB lv < tvK lv ∧ tvK lv ≤ tvB (lv + 1) ∧ tvL lv ≤ tvL (lv + 1) := by
  unfold tvK tvL tvB
  repeat' split
  all_goals omega
theorem clo_base {k : Nat} {B : List Nat} {dp : Nat} {pr : List Int32} (h : ∀ c B', B = c :: B' → c = 20 ∨ tig c < k) : clo k B dp pr = (B, dp, pr) := by
  cases B with
  | nil => rfl
  | cons c B =>
    rcases h c B rfl with q | q
    · rw [clo, if_pos q]
    · by_cases z : c = 20
      · rw [clo, if_pos z]
      · rw [clo, if_neg z, if_pos q]
theorem nts_cons (c : Nat) (st : List Nat) : nts (c :: st) = nts st + (if c = 21 then 1 else 0) := by
  unfold nts
  rw [List.countP_cons]
  by_cases q : c = 21
  · simp [q]
  · simp [q]
theorem nts_app (a b : List Nat) : nts (a ++ b) = nts a + nts b := by
  unfold nts
  rw [List.countP_append]
theorem clo_ext {k : Nat} {B : List Nat} : ∀ (ext : List Nat) (dp : Nat) (pr : List Int32), (∀ c ∈ ext, c ≠ 20 ∧ k ≤ tig c) → clo k (ext ++ B) (dp + nts ext) pr = clo k B dp (pr ++ ext.map emi) := by
  intro ext
  induction ext with
  | nil => intro dp pr h; simp [nts]
  | cons c ext ih =>
    intro dp pr h
    obtain ⟨h1, h2⟩ := h c List.mem_cons_self
    rw [List.cons_append, clo, if_neg h1, if_neg (by omega), nts_cons]
    have e : (if c = 21 then dp + (nts ext + (if c = 21 then 1 else 0)) - 1 else dp + (nts ext + (if c = 21 then 1 else 0))) = dp + nts ext := by
      by_cases q : c = 21
      · rw [if_pos q, if_pos q]; omega
      · rw [if_neg q, if_neg q]; omega
    rw [e, ih dp _ (fun x hx => h x (List.mem_cons_of_mem _ hx)), List.map_cons, List.append_assoc]
    rfl
theorem clo_len {k : Nat} : ∀ (st : List Nat) (dp : Nat) (pr : List Int32), (clo k st dp pr).1.length ≤ st.length := by
  intro st
  induction st with
  | nil => intro dp pr; exact Nat.le_refl _
  | cons c st ih =>
    intro dp pr
    rw [clo]
    split
    · exact Nat.le_refl _
    · split
      · exact Nat.le_refl _
      · exact Nat.le_trans (ih _ _) (Nat.le_succ _)
theorem hRel_ext {B : List Nat} : ∀ (ext : List Nat), (∀ c ∈ ext, c ≠ 20 ∧ 5 ≤ tig c) → hRel (ext ++ B) = hRel B := by
  intro ext
  induction ext with
  | nil => intro _; rfl
  | cons c ext ih =>
    intro h
    obtain ⟨h1, h2⟩ := h c List.mem_cons_self
    rw [List.cons_append, hRel, if_neg h1, if_neg (by omega)]
    exact ih (fun x hx => h x (List.mem_cons_of_mem _ hx))
theorem hRel_base {B : List Nat} (h : Bs 2 B) : ¬ hRel B = true := by
  cases B with
  | nil => intro z; cases z
  | cons c B =>
    rcases h with q | q
    · rw [hRel, if_pos q]; decide
    · have q : tig c ≤ 3 := q
      by_cases z : c = 20
      · rw [hRel, if_pos z]; decide
      · rw [hRel, if_neg z, if_pos (by omega)]
        intro y
        have := of_decide_eq_true y
        omega
theorem hRel_top {c : Nat} {B : List Nat} (h : tig c = 4) (h2 : c ≠ 20) : hRel (c :: B) = true := by
  rw [hRel, if_neg h2, if_pos (by omega)]
  exact decide_eq_true h
theorem mNot_base {B : List Nat} (h : Bs 2 B) : mNot B = true := by
  cases B with
  | nil => rfl
  | cons c B =>
    rcases h with q | q
    · rw [mNot, if_pos q]
    · have q : tig c ≤ 3 := q
      rw [mNot]
      split
      · rfl
      · exact decide_eq_true (by omega)
theorem tig_sgn : ∀ c ∈ stS, c ≠ 21 → tig c ≠ 3 := by decide
theorem tig_20 : tig 20 = 6 := rfl
section TIE0
variable {T : Nat → Nat} {n p : Nat}
theorem sgn_21 (h : sgn T n p ≠ 0) : sgn T n p ≠ 21 ∧ sgn T n p ≠ 20 := by
  unfold sgn at h ⊢
  by_cases h4 : tC T n p = 4
  · rw [if_pos h4] at h ⊢
    by_cases a : tV T n p = 13
    · rw [if_pos a]; decide
    · rw [if_neg a] at h ⊢
      by_cases b : tV T n p = 12
      · rw [if_pos b]; decide
      · rw [if_neg b] at h; exact absurd rfl h
  · rw [if_neg h4] at h ⊢
    by_cases h5 : tC T n p = 5
    · rw [if_pos h5] at h ⊢
      by_cases m : tV T n p ∈ [60, 62, 61, 43, 45, 42, 47, 37]
      · rw [if_pos m]
        exact (by decide : ∀ v ∈ [60, 62, 61, 43, 45, 42, 47, 37], v ≠ 21 ∧ v ≠ 20) _ m
      · rw [if_neg m] at h; exact absurd rfl h
    · rw [if_neg h5] at h; exact absurd rfl h
theorem oAt_s {lv : Nat} (hl : lv ≤ 4) : (oAt T n p lv = -100 → sgn T n p ≠ 0 → tig (sgn T n p) ≠ tvK lv) ∧ (¬ oAt T n p lv = -100 → sgn T n p ≠ 0 ∧ tig (sgn T n p) = tvK lv ∧ emi (sgn T n p) = oAt T n p lv) := by
  unfold sgn oAt
  have l4 : lv = 0 ∨ lv = 1 ∨ lv = 2 ∨ lv = 3 ∨ lv = 4 := by omega
  by_cases h4 : tC T n p = 4
  · rw [if_pos h4, if_pos h4]
    by_cases a : tV T n p = 13
    · rw [a]
      rcases l4 with q | q | q | q | q <;> subst q <;> decide
    · by_cases b : tV T n p = 12
      · rw [b]
        rcases l4 with q | q | q | q | q <;> subst q <;> decide
      · rw [if_neg a, if_neg b, if_neg (fun z => b z.2), if_neg (fun z => a z.2)]
        exact ⟨fun _ z => absurd rfl z, fun z => absurd rfl z⟩
  · rw [if_neg h4, if_neg h4]
    by_cases h5 : tC T n p = 5
    · rw [if_pos h5, if_pos h5]
      by_cases m : tV T n p ∈ [60, 62, 61, 43, 45, 42, 47, 37]
      · rw [if_pos m]
        generalize tV T n p = v at m
        have := (by decide +kernel : ∀ v ∈ [60, 62, 61, 43, 45, 42, 47, 37], ∀ lv ∈ [0, 1, 2, 3, 4], ((if lv = 4 ∧ v = 37 then (-16 : Int32) else if lv = 4 ∧ v = 42 then -14 else if lv = 3 ∧ v = 43 then -12 else if lv = 3 ∧ v = 45 then -13 else if lv = 4 ∧ v = 47 then -15 else if lv = 2 ∧ v = 60 then -9 else if lv = 2 ∧ v = 61 then -11 else if lv = 2 ∧ v = 62 then -10 else -100) = -100 → v ≠ 0 → tig v ≠ tvK lv) ∧ (¬ (if lv = 4 ∧ v = 37 then (-16 : Int32) else if lv = 4 ∧ v = 42 then -14 else if lv = 3 ∧ v = 43 then -12 else if lv = 3 ∧ v = 45 then -13 else if lv = 4 ∧ v = 47 then -15 else if lv = 2 ∧ v = 60 then -9 else if lv = 2 ∧ v = 61 then -11 else if lv = 2 ∧ v = 62 then -10 else -100) = -100 → v ≠ 0 ∧ tig v = tvK lv ∧ emi v = (if lv = 4 ∧ v = 37 then (-16 : Int32) else if lv = 4 ∧ v = 42 then -14 else if lv = 3 ∧ v = 43 then -12 else if lv = 3 ∧ v = 45 then -13 else if lv = 4 ∧ v = 47 then -15 else if lv = 2 ∧ v = 60 then -9 else if lv = 2 ∧ v = 61 then -11 else if lv = 2 ∧ v = 62 then -10 else -100)))
        exact this v m lv (by simp; omega)
      · rw [if_neg m]
        have z : ∀ x, x ∈ [60, 62, 61, 43, 45, 42, 47, 37] → tV T n p ≠ x := fun x hx q => m (q ▸ hx)
        rw [if_neg (fun y => z 37 (by decide) y.2), if_neg (fun y => z 42 (by decide) y.2), if_neg (fun y => z 43 (by decide) y.2), if_neg (fun y => z 45 (by decide) y.2), if_neg (fun y => z 47 (by decide) y.2), if_neg (fun y => z 60 (by decide) y.2), if_neg (fun y => z 61 (by decide) y.2), if_neg (fun y => z 62 (by decide) y.2)]
        exact ⟨fun _ z => absurd rfl z, fun z => absurd rfl z⟩
    · rw [if_neg h5, if_neg h5]
      exact ⟨fun _ z => absurd rfl z, fun z => absurd rfl z⟩
end TIE0
