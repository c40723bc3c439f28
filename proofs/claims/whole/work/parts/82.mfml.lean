/-! the reference's formula: steps and its stack -/
section MFM
variable {E : px_E} {d : Nat} {w w0 : pw_W} {Q : Option Value → pw_W → Prop} {t : ct_T} {T : Nat → Nat} {n p u : Nat} {pr : List Int32} {D : DS}
theorem tX10_addG {x y v : Int32} (hm : mStp x y v) (hl : pr.length < 320) (hb : (dO D).testBit 3 = true) (hG : MG t T n p (dFm D u pr) w0 w) (k : ∀ w', MG t T n p (dFm D u (pr ++ [v])) w0 w' → agF [64, 65] [17] w w' → Q none w') : px_Call E (d + 1) 0 0 mX10_add [.ref 61, .int x, .int y] w Q := by
  obtain ⟨hw, hA, hp, hk, f2, f3, ⟨g1, g2, g3, g4, g5⟩, gn, go, gf⟩ := hG
  have hN : mFmN pr w := gf.2 hb
  refine eX10_add hw pr.length hN.1 hl (k _ ?_ ?_)
  · have a1 : agF [64, 65] [17] w (pw_sI (pw_sI (pw_sI w 64 pr.length x) 65 pr.length y) 61 17 (pw_I w 61 17 + 1)) := (agF.sC (by decide)).tr ((agF.sC (by decide)).tr (agF.sI (by decide)))
    have fo : ∀ b, b ≠ 17 → pw_I (pw_sI (pw_sI (pw_sI w 64 pr.length x) 65 pr.length y) 61 17 (pw_I w 61 17 + 1)) 61 b = pw_I w 61 b := fun b hb => by rw [pw_oth (fun _ z => hb z), pw_oth (by omega), pw_oth (by omega)]
    have co : ∀ a, a ≠ 61 → a ≠ 64 → a ≠ 65 → ∀ b, pw_I (pw_sI (pw_sI (pw_sI w 64 pr.length x) 65 pr.length y) 61 17 (pw_I w 61 17 + 1)) a b = pw_I w a b := fun a q1 q2 q3 b => by rw [pw_oth (fun z _ => q1 z), pw_oth (fun z _ => q3 z), pw_oth (fun z _ => q2 z)]
    have v64 : ∀ i, pw_I (pw_sI (pw_sI (pw_sI w 64 pr.length x) 65 pr.length y) 61 17 (pw_I w 61 17 + 1)) 64 i = if i = pr.length then x else pw_I w 64 i := fun i => by
      rw [pw_oth (by omega), pw_oth (by omega), pw_I_sI]
      by_cases q : i = pr.length
      · rw [if_pos ⟨rfl, q⟩, if_pos q]
      · rw [if_neg (fun z => q z.2), if_neg q]
    have v65 : ∀ i, pw_I (pw_sI (pw_sI (pw_sI w 64 pr.length x) 65 pr.length y) 61 17 (pw_I w 61 17 + 1)) 65 i = if i = pr.length then y else pw_I w 65 i := fun i => by
      rw [pw_oth (by omega), pw_I_sI]
      by_cases q : i = pr.length
      · rw [if_pos ⟨rfl, q⟩, if_pos q]
      · rw [if_neg (fun z => q z.2), if_neg q, pw_oth (by omega)]
    refine ⟨hI (hI (hI hw)), hA.tr (a1.mono (by decide) (by decide)), hp, hk.agF a1 (by decide) (by decide), ?_, ?_, ⟨?_, fun i hi => ?_, fun i hi => ?_, fun b hb => ?_, fun b hb j hj => ?_⟩, gn, ?_, fun z => ?_, fun _ => ⟨?_, fun i hi => ?_⟩⟩
    · rw [fo 2 (by decide)]; exact f2
    · rw [fo 3 (by decide)]; exact f3
    · rw [fo 45 (by decide), fo 46 (by decide), fo 47 (by decide), fo 48 (by decide), fo 49 (by decide), fo 50 (by decide), fo 20 (by decide)]; exact g1
    · rw [co 71 (by decide) (by decide) (by decide), co 72 (by decide) (by decide) (by decide), co 73 (by decide) (by decide) (by decide)]; exact g2 i hi
    · rw [co 74 (by decide) (by decide) (by decide), co 75 (by decide) (by decide) (by decide), co 76 (by decide) (by decide) (by decide)]; exact g3 i hi
    · rw [co 77 (by decide) (by decide) (by decide), co 79 (by decide) (by decide) (by decide)]; exact g4 b hb
    · rw [co 78 (by decide) (by decide) (by decide)]; exact g5 b hb j hj
    · unfold MDo; rw [fo 24 (by decide), fo 57 (by decide), fo 58 (by decide), fo 59 (by decide)]; exact go
    · have z : (dO D).testBit 3 = false := z
      rw [hb] at z; cases z
    · rw [pw_same, hN.1, ← nI_succ]
      show _ = nI (pr ++ [v]).length
      rw [List.length_append]; rfl
    · have hi : i < (pr ++ [v]).length := hi
      rw [List.length_append] at hi
      have hi : i < pr.length + 1 := hi
      show mStp _ _ ((pr ++ [v]).getD i 0)
      rw [v64, v65]
      by_cases e : i = pr.length
      · rw [if_pos e, if_pos e, e, List.getD_eq_getElem?_getD, List.getElem?_append_right (Nat.le_refl _), Nat.sub_self]
        exact hm
      · rw [if_neg e, if_neg e, List.getD_eq_getElem?_getD, List.getElem?_append_left (by omega), ← List.getD_eq_getElem?_getD]
        exact hN.2 i (by omega)
  · exact (agF.sC (by decide)).tr ((agF.sC (by decide)).tr (agF.sI (by decide)))
end MFM
/-- how tightly a sign on the stack binds; what it becomes -/
def tig (c : Nat) : Nat := if c = 21 then 3 else if c = 38 then 2 else if c = 43 then 5 else if c = 45 then 5 else if c = 60 then 4 else if c = 61 then 4 else if c = 62 then 4 else if c = 124 then 1 else 6
def emi (c : Nat) : Int32 := if c = 21 then -6 else if c = 124 then -7 else if c = 38 then -8 else if c = 60 then -9 else if c = 62 then -10 else if c = 61 then -11 else if c = 43 then -12 else if c = 45 then -13 else if c = 42 then -14 else if c = 47 then -15 else -16
def stS : List Nat := [20, 21, 124, 38, 60, 62, 61, 43, 45, 42, 47, 37]
theorem tig_w : ∀ c ∈ stS, hX10_tight (nI c) = nI (tig c) := by decide +kernel
theorem emi_m : ∀ c ∈ stS, c ≠ 20 → c ≠ 21 → (nI c, emi c) ∈ mOps := by decide +kernel
theorem emi_b : ∀ c ∈ stS, c < 200 ∧ tig c ≤ 6 := by decide
/-- close: what binds as tightly goes out -/
def clo (k : Nat) : List Nat → Nat → List Int32 → List Nat × Nat × List Int32
  | [], dp, pr => ([], dp, pr)
  | c :: st, dp, pr => if c = 20 then (c :: st, dp, pr) else if tig c < k then (c :: st, dp, pr) else clo k st (if c = 21 then dp - 1 else dp) (pr ++ [emi c])
/-- the stack, its top first, and how deep -/
def MF9 (st : List Nat) (dp : Nat) (w : pw_W) : Prop := pw_I w 61 19 = nI st.length ∧ pw_I w 61 23 = nI dp ∧ ∀ i, i < st.length → pw_I w 68 i = nI (st.reverse.getD i 0)
theorem MF9.agF {st : List Nat} {dp : Nat} {w w' : pw_W} {S F : List Nat} (h : MF9 st dp w) (ha : agF S F w w') (n61 : 61 ∉ S) (n68 : 68 ∉ S) (hf : 19 ∉ F ∧ 23 ∉ F) : MF9 st dp w' :=
  ⟨(ha.F n61 hf.1).trans h.1, (ha.F n61 hf.2).trans h.2.1, fun i hi => (ha.I n68 (by decide) i).trans (h.2.2 i hi)⟩
theorem MF9.top {c : Nat} {st : List Nat} {dp : Nat} {w : pw_W} (h : MF9 (c :: st) dp w) : pw_I w 68 st.length = nI c := by
  rw [h.2.2 st.length (by show _ < st.length + 1; omega), List.reverse_cons, List.getD_eq_getElem?_getD, List.getElem?_append_right (by rw [List.length_reverse]; exact Nat.le_refl _), List.length_reverse, Nat.sub_self]
  rfl
theorem MF9.pop {c : Nat} {st : List Nat} {dp dp' : Nat} {w w' : pw_W} (h : MF9 (c :: st) dp w) (h1 : pw_I w' 61 19 = nI st.length) (h2 : pw_I w' 61 23 = nI dp') (h3 : ∀ i, pw_I w' 68 i = pw_I w 68 i) : MF9 st dp' w' := by
  refine ⟨h1, h2, fun i hi => ?_⟩
  rw [h3, h.2.2 i (by show _ < st.length + 1; omega), List.reverse_cons, List.getD_eq_getElem?_getD, List.getElem?_append_left (by rw [List.length_reverse]; exact hi), ← List.getD_eq_getElem?_getD]
