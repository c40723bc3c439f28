/-! what the reference asks of its stack and of a token -/
def hRel : List Nat → Bool
  | [] => false
  | c :: st => if c = 20 then false else if tig c ≤ 4 then decide (tig c = 4) else hRel st
def mNot : List Nat → Bool
  | [] => true
  | c :: _ => if c = 20 then true else decide (tig c < 4)
/-- the sign at p, 0 if none -/
def sgn (T : Nat → Nat) (n p : Nat) : Nat := if tC T n p = 4 then (if tV T n p = 13 then 38 else if tV T n p = 12 then 124 else 0) else if tC T n p = 5 then (if tV T n p ∈ [60, 62, 61, 43, 45, 42, 47, 37] then tV T n p else 0) else 0
section MFM
variable {E : px_E} {d : Nat} {w : pw_W} {Q : Option Value → pw_W → Prop} {t : ct_T} {T : Nat → Nat} {n p : Nat}
theorem tX10_mayNot {st : List Nat} {dp : Nat} (hw : w.1 = cs t) (hs : ∀ c ∈ st, c ∈ stS) (hl : st.length ≤ 160) (hM : MF9 st dp w) (k : Q (some (.int (jb (mNot st = true)))) w) : px_Call E (d + 2) 0 0 mX10_mayNot [.ref 61] w Q := by
  cases st with
  | nil =>
    refine eX10_mayNot hw (fun _ => bX10_mayNot_41 hw (bX10_mayNot_46 hw (Or.inr rfl) ?_)) (fun z => absurd hM.1 z)
    rw [jb_t (p := mNot [] = true) rfl] at k
    exact k
  | cons c st =>
    have hl : st.length + 1 ≤ 160 := hl
    have hc := hs c (List.mem_cons_self)
    have cb := emi_b c hc
    have tp := hM.top
    have h19 : pw_I w 61 19 = nI (st.length + 1) := hM.1
    have e1 : pw_I w 61 19 - 1 = nI st.length := by rw [h19]; exact pk_sub (b := 1) (by omega)
    refine eX10_mayNot hw (fun z => ?_) (fun _ => ?_)
    · rw [h19] at z
      have := za_eq (b := 0) (by omega) (by decide) z
      omega
    · refine bX10_mayNot_7 hw st.length e1 (by omega) (fun z => ?_) (fun z => ?_) <;> rw [tp] at z
      · have z := za_eq (b := 20) (by omega) (by decide) z
        rw [jb_t (p := mNot (c :: st) = true) (by rw [mNot, if_pos z])] at k
        exact bX10_mayNot_41 hw (bX10_mayNot_46 hw (Or.inr rfl) k)
      · have z20 : c ≠ 20 := fun q => z (by rw [q]; rfl)
        have M : mNot (c :: st) = decide (tig c < 4) := by rw [mNot, if_neg z20]
        refine bX10_mayNot_23 hw st.length e1 (by omega) (fun z => ?_) (fun z => ?_) <;> rw [tp, tig_w c hc] at z
        · have z := za_le (a := 4) (by decide) (by omega) z
          rw [jb_f (p := mNot (c :: st) = true) (by rw [M, decide_eq_true_eq]; omega)] at k
          exact bX10_mayNot_46 hw (Or.inl rfl) k
        · have z : tig c < 4 := Nat.lt_of_not_le (fun q => z (nI_le (a := 4) q (by omega)))
          rw [jb_t (p := mNot (c :: st) = true) (by rw [M, decide_eq_true_eq]; exact z)] at k
          exact bX10_mayNot_41 hw (bX10_mayNot_46 hw (Or.inr rfl) k)
theorem sgn_w (hk : MTk T n p w) : hX10_sign w = nI (sgn T n p) := by
  have kA : pX10_isWord w 6385252 ↔ tC T n p = 4 ∧ tV T n p = 13 := hk.kw (x := 13) (by decide) (by decide)
  have kO : pX10_isWord w 28530 ↔ tC T n p = 4 ∧ tV T n p = 12 := hk.kw (x := 12) (by decide) (by decide)
  have s : ∀ x ∈ sgS, pw_I w 61 6 = nI x ↔ tC T n p = 5 ∧ tV T n p = x := fun x hx => by rw [hk.2.2.1]; exact mS_5 hx
  have s60 : pw_I w 61 6 = 60 ↔ tC T n p = 5 ∧ tV T n p = 60 := s 60 (by decide)
  have s62 : pw_I w 61 6 = 62 ↔ tC T n p = 5 ∧ tV T n p = 62 := s 62 (by decide)
  have s61 : pw_I w 61 6 = 61 ↔ tC T n p = 5 ∧ tV T n p = 61 := s 61 (by decide)
  have s43 : pw_I w 61 6 = 43 ↔ tC T n p = 5 ∧ tV T n p = 43 := s 43 (by decide)
  have s45 : pw_I w 61 6 = 45 ↔ tC T n p = 5 ∧ tV T n p = 45 := s 45 (by decide)
  have s42 : pw_I w 61 6 = 42 ↔ tC T n p = 5 ∧ tV T n p = 42 := s 42 (by decide)
  have s47 : pw_I w 61 6 = 47 ↔ tC T n p = 5 ∧ tV T n p = 47 := s 47 (by decide)
  have s37 : pw_I w 61 6 = 37 ↔ tC T n p = 5 ∧ tV T n p = 37 := s 37 (by decide)
  unfold hX10_sign sgn
  by_cases h4 : tC T n p = 4
  · have n5 : ¬ tC T n p = 5 := by omega
    rw [if_pos h4]
    by_cases a : tV T n p = 13
    · rw [if_pos (kA.mpr ⟨h4, a⟩), if_pos a]; rfl
    · rw [if_neg (fun z => a (kA.mp z).2), if_neg a]
      by_cases o : tV T n p = 12
      · rw [if_pos (kO.mpr ⟨h4, o⟩), if_pos o]; rfl
      · rw [if_neg (fun z => o (kO.mp z).2), if_neg o, if_neg (fun z => n5 (s60.mp z).1), if_neg (fun z => n5 (s62.mp z).1), if_neg (fun z => n5 (s61.mp z).1), if_neg (fun z => n5 (s43.mp z).1), if_neg (fun z => n5 (s45.mp z).1), if_neg (fun z => n5 (s42.mp z).1), if_neg (fun z => n5 (s47.mp z).1), if_neg (fun z => n5 (s37.mp z).1)]
        rfl
  · rw [if_neg h4, if_neg (fun z => h4 (kA.mp z).1), if_neg (fun z => h4 (kO.mp z).1)]
    by_cases h5 : tC T n p = 5
    · rw [if_pos h5]
      have e6 : pw_I w 61 6 = nI (tV T n p) := by
        rw [hk.2.2.1]; exact (mS_5 (tC_5 h5)).mpr ⟨h5, rfl⟩
      have m := tC_5 h5
      rw [e6]
      have cs : ∀ v ∈ sgS, (if nI v = 60 then nI v else if nI v = 62 then nI v else if nI v = 61 then nI v else if nI v = 43 then nI v else if nI v = 45 then nI v else if nI v = 42 then nI v else if nI v = 47 then nI v else if nI v = 37 then nI v else 0) = nI (if v ∈ [60, 62, 61, 43, 45, 42, 47, 37] then v else 0) := by decide +kernel
      exact cs _ m
    · rw [if_neg h5, if_neg (fun z => h5 (s60.mp z).1), if_neg (fun z => h5 (s62.mp z).1), if_neg (fun z => h5 (s61.mp z).1), if_neg (fun z => h5 (s43.mp z).1), if_neg (fun z => h5 (s45.mp z).1), if_neg (fun z => h5 (s42.mp z).1), if_neg (fun z => h5 (s47.mp z).1), if_neg (fun z => h5 (s37.mp z).1)]
      rfl
end MFM
