/-! the reference's formula -/
def mOps : List (Int32 × Int32) := [(124, -7), (38, -8), (60, -9), (62, -10), (61, -11), (43, -12), (45, -13), (42, -14), (47, -15), (37, -16)]
def mStp (s a c : Int32) : Prop := (s = 0 ∧ a = c ∧ ¬ c < 0) ∨ (s = 1 ∧ ∃ j : Nat, j < 5 ∧ a = nI j ∧ c = -1 - nI j) ∨ (s = 2 ∧ c = -6) ∨ (s = 3 ∧ (a, c) ∈ mOps)
def mFm (pr : List Int32) (w : pw_W) : Prop := (pw_I w 61 25 = 0 ∧ pr = fDef) ∨ (pw_I w 61 25 = 1 ∧ pw_I w 61 18 = nI pr.length ∧ ∀ i, i < pr.length → mStp (pw_I w 66 i) (pw_I w 67 i) (pr.getD i 0))
theorem mDone {a c : Int32} (h : (a, c) ∈ mOps) (x y : Int32) : hX10_done a x y = hX1_joined c x y := by
  simp only [mOps, List.mem_cons, Prod.mk.injEq, List.not_mem_nil, or_false] at h
  rcases h with ⟨rfl, rfl⟩ | ⟨rfl, rfl⟩ | ⟨rfl, rfl⟩ | ⟨rfl, rfl⟩ | ⟨rfl, rfl⟩ | ⟨rfl, rfl⟩ | ⟨rfl, rfl⟩ | ⟨rfl, rfl⟩ | ⟨rfl, rfl⟩ | ⟨rfl, rfl⟩ <;> rfl
theorem mOps_lt {a c : Int32} (h : (a, c) ∈ mOps) : c < -5 ∧ ¬ c = -6 := by
  simp only [mOps, List.mem_cons, Prod.mk.injEq, List.not_mem_nil, or_false] at h
  rcases h with ⟨rfl, rfl⟩ | ⟨rfl, rfl⟩ | ⟨rfl, rfl⟩ | ⟨rfl, rfl⟩ | ⟨rfl, rfl⟩ | ⟨rfl, rfl⟩ | ⟨rfl, rfl⟩ | ⟨rfl, rfl⟩ | ⟨rfl, rfl⟩ | ⟨rfl, rfl⟩ <;> decide
theorem fClampM (v : Int32) : hX10_within v 0 20 = nI (fClamp v) := by
  unfold hX10_within fClamp
  by_cases h1 : v < 0
  · rw [if_pos h1, if_neg (fun z => Int32.lt_irrefl (Int32.lt_of_le_of_lt z h1))]
    rfl
  · rw [if_neg h1, if_pos (Int32.not_lt.mp h1)]
    by_cases h2 : 20 < v
    · rw [if_pos h2, if_neg (fun z => Int32.lt_irrefl (Int32.lt_of_lt_of_le h2 z))]
      rfl
    · rw [if_neg h2, if_pos (Int32.not_lt.mp h2)]
      obtain ⟨j, hj, rfl⟩ := nI_of h1
      rw [nI_clamp hj]
theorem mKnow (own other sore day : Int32) : ∀ j, j < 5 → hX1_known (-1 - nI j) own other sore day = [own, other, sore, day, day / 7].getD j 0
  | 0, _ => rfl
  | 1, _ => rfl
  | 2, _ => rfl
  | 3, _ => rfl
  | 4, _ => rfl
theorem mNeg : ∀ j, j < 5 → ¬ ((-1 : Int32) - nI j < -5) ∧ (-1 : Int32) - nI j < 0 := by decide
theorem tX10_touchOf {E : px_E} {d : Nat} {w : pw_W} {Q : Option Value → pw_W → Prop} {t : ct_T} (hw : w.1 = cs t) {pr : List Int32} (hf : mFm pr w) (hle : pr.length ≤ 270) (hok : fOK pr 0 = true) (own other sore day : Int32) (hday : pw_I w 90 13 = day)
    (k : ∀ w', ag [69, 70] w w' → Q (some (.int (nI (fClamp ((fRun own other sore day pr []).getD 0 0))))) w') :
    px_Call E (d + 3) 0 0 mX10_touchOf [.ref 61, .int own, .int other, .int sore] w Q := by
  refine eX10_touchOf hw (fun hh => ?_) (fun hh => ?_) <;> rw [hday]
  · obtain ⟨hh2, -⟩ | ⟨-, hlen, hst⟩ := hf
    · exact absurd hh2 hh
    have ha0 : ag [69, 70] w (pw_sI (pw_sI (pw_sI (pw_sI (pw_sI w 70 0 own) 70 1 other) 70 2 sore) 70 3 day) 70 4 (day / 7)) := ((((ag.sI (by simp)).tr (ag.sI (by simp))).tr (ag.sI (by simp))).tr (ag.sI (by simp))).tr (ag.sI (by simp))
    have hask0 : ∀ j, j < 5 → pw_I (pw_sI (pw_sI (pw_sI (pw_sI (pw_sI w 70 0 own) 70 1 other) 70 2 sore) 70 3 day) 70 4 (day / 7)) 70 j = [own, other, sore, day, day / 7].getD j 0 := by
      intro j hj
      match j, hj with
      | 0, _ => rfl
      | 1, _ => rfl
      | 2, _ => rfl
      | 3, _ => rfl
      | 4, _ => rfl
    generalize pw_sI (pw_sI (pw_sI (pw_sI (pw_sI w 70 0 own) 70 1 other) 70 2 sore) 70 3 day) 70 4 (day / 7) = w0 at ha0 hask0 ⊢
    have key : ∀ i, i ≤ pr.length → ∀ (st : List Int32) (w1 : pw_W), ag [69, 70] w w1 → (∀ j, j < 5 → pw_I w1 70 j = [own, other, sore, day, day / 7].getD j 0) → st.length ≤ 30 → fOK (pr.drop i) st.length = true → (∀ j, j < st.length → pw_I w1 69 j = st.getD (st.length - 1 - j) 0) → fRun own other sore day (pr.drop i) st = fRun own other sore day pr [] →
        px_W E mX10_touchOf (d + 3) 0 0 74 [.ref 61, .null, .null, .null, .int (nI st.length), .int (nI i)] [] w1 Q := by
      refine za_up pr.length _ (fun i hi ih => ?_)
      intro st w1 ha hask h30 hk hs hr
      have hw1 : w1.1 = cs t := ha.1.trans hw
      have e1 : pw_I w1 61 18 = nI pr.length := (ha.I (by decide) 18).trans hlen
      refine bX10_touchOf_74 hw1 (fun h1 => ?_) (fun h1 => ?_)
      · rw [e1] at h1
        have : i = pr.length := by have := za_le (by omega) (by omega) h1; omega
        subst this
        rw [List.drop_length] at hr hk
        have hl : st.length = 1 := of_decide_eq_true hk
        refine bX10_touchOf_236 hw1 ?_
        rw [fClampM, hs 0 (by omega), hl]
        have e : st = fRun own other sore day pr [] := hr
        rw [e]
        exact k w1 ha
      · rw [e1] at h1
        have hlt : i < pr.length := za_nle (by omega) (by omega) h1
        have e2 : mStp (pw_I w1 66 i) (pw_I w1 67 i) (pr.getD i 0) := by rw [ha.I (by decide) i, ha.I (by decide) i]; exact hst i hlt
        have hd : pr.drop i = pr.getD i 0 :: pr.drop (i + 1) := by
          rw [List.drop_eq_getElem_cons hlt, List.getD_eq_getElem?_getD, List.getElem?_eq_getElem hlt]
          rfl
        rw [hd] at hk hr
        generalize pr.getD i 0 = c at e2 hk hr
        have fin : ∀ (st' : List Int32) (w2 : pw_W), ag [69] w1 w2 → st'.length ≤ 30 → fOK (pr.drop (i + 1)) st'.length = true → (∀ j, j < st'.length → pw_I w2 69 j = st'.getD (st'.length - 1 - j) 0) → fStep own other sore day c st = st' →
            px_W E mX10_touchOf (d + 3) 0 0 230 [.ref 61, .null, .null, .null, .int (nI st'.length), .int (nI i)] [] w2 Q := by
          intro st' w2 g1 g2 g3 g4 g5
          refine bX10_touchOf_230 (g1.1.trans hw1) ?_
          rw [nI_1]
          refine ih hlt st' w2 (ha.tr (g1.mono (by simp))) (fun j hj => by rw [g1.I (by decide) j]; exact hask j hj) g2 g3 g4 ?_
          rw [← hr, ← g5]
          rfl
        have push : ∀ v : Int32, fStep own other sore day c st = v :: st → st.length < 30 → fOK (pr.drop (i + 1)) (st.length + 1) = true → px_W E mX10_touchOf (d + 3) 0 0 142 [.ref 61, .null, .null, .null, .int (nI st.length), .int (nI i)] [.int v, .int (nI st.length), .ref 69] w1 Q := by
          intro v hv h29 h3
          refine bX10_touchOf_142 hw1 st.length rfl (by omega) ?_
          rw [nI_1]
          refine fin (v :: st) _ (ag.sI (by simp)) (by simp only [List.length_cons]; omega) (by simpa using h3) (fun j hj => ?_) hv
          simp only [List.length_cons] at hj ⊢
          by_cases hjr : j = st.length
          · subst hjr
            rw [pw_same, show st.length + 1 - 1 - st.length = 0 by omega]; rfl
          · rw [pw_oth (fun _ z => hjr z), hs j (by omega), show st.length + 1 - 1 - j = (st.length - 1 - j) + 1 by omega]
            rfl
        unfold fOK at hk
        rcases e2 with ⟨s0, a0, c0⟩ | ⟨s1, q, hq, a1, c1⟩ | ⟨s2, c2⟩ | ⟨s3, o3⟩
        · have c5 : ¬ c < -5 := fun z => c0 (Int32.lt_trans z (by decide))
          rw [if_neg c5] at hk
          simp only [Bool.and_eq_true, decide_eq_true_eq] at hk
          refine bX10_touchOf_83 hw1 i rfl (by omega) (fun _ => ?_) (fun z => absurd s0 z)
          refine bX10_touchOf_104 hw1 i rfl (by omega) (fun z => absurd s0 z) (fun _ => ?_)
          refine bX10_touchOf_120 hw1 i rfl (by omega) ?_
          rw [a0]
          exact push c (by unfold fStep; rw [if_neg c5, if_neg c0]) hk.1 hk.2
        · obtain ⟨n5, n0⟩ := mNeg q hq
          rw [← c1] at n5 n0
          rw [if_neg n5] at hk
          simp only [Bool.and_eq_true, decide_eq_true_eq] at hk
          refine bX10_touchOf_83 hw1 i rfl (by omega) (fun z => absurd (s1.symm.trans z) (by decide)) (fun _ => ?_)
          refine bX10_touchOf_93 hw1 i rfl (by omega) (fun z => absurd s1 z) (fun _ => ?_)
          refine bX10_touchOf_104 hw1 i rfl (by omega) (fun _ => ?_) (fun z => absurd (s1.symm.trans z) (by decide))
          refine bX10_touchOf_130 hw1 i rfl (by omega) q a1 hq ?_
          rw [hask q hq]
          exact push _ (by unfold fStep; rw [if_neg n5, if_pos n0, c1, mKnow _ _ _ _ q hq]) hk.1 hk.2
        · subst c2
          rw [if_pos (by decide), if_pos rfl] at hk
          simp only [Bool.and_eq_true, decide_eq_true_eq] at hk
          refine bX10_touchOf_83 hw1 i rfl (by omega) (fun z => absurd (s2.symm.trans z) (by decide)) (fun _ => ?_)
          refine bX10_touchOf_93 hw1 i rfl (by omega) (fun _ => ?_) (fun z => absurd (s2.symm.trans z) (by decide))
          refine bX10_touchOf_149 hw1 i rfl (by omega) (fun z => absurd s2 z) (fun _ => ?_)
          match st, hk, hs, h30, fin with
          | a :: r, hk, hs, h30, fin =>
            simp only [List.length_cons] at hk hs h30 fin ⊢
            have e4 : nI (r.length + 1) - 1 = nI r.length := nI_pred _
            have g1 : pw_I w1 69 r.length = a := by rw [hs _ (by omega), show r.length + 1 - 1 - r.length = 0 by omega]; rfl
            have fin2 : ∀ z : Int32, hX10_truth z = (if a = 0 then 1 else 0) → px_W E mX10_touchOf (d + 3) 0 0 230 [.ref 61, .null, .null, .null, .int (nI (r.length + 1)), .int (nI i)] [] (pw_sI w1 69 r.length (hX10_truth z)) Q := by
              intro z hz
              refine fin (hX10_truth z :: r) _ (ag.sI (by simp)) (by simp only [List.length_cons]; omega) (by simpa using hk.2) (fun j hj => ?_) (by unfold fStep; rw [if_pos (by decide), if_pos rfl, hz])
              simp only [List.length_cons] at hj ⊢
              by_cases hjr : j = r.length
              · subst hjr
                rw [pw_same, show r.length + 1 - 1 - r.length = 0 by omega]; rfl
              · rw [pw_oth (fun _ z => hjr z), hs j (by omega), show r.length + 1 - 1 - j = (r.length - 1 - j) + 1 by omega]
                rfl
            refine bX10_touchOf_160 hw1 r.length e4 (by omega) (fun q => ?_) (fun q => ?_)
            · rw [g1] at q
              exact bX10_touchOf_185 hw1 r.length e4 (by omega) (fin2 0 (by rw [if_neg q]; rfl))
            · rw [g1] at q
              exact bX10_touchOf_185 hw1 r.length e4 (by omega) (fin2 1 (by rw [if_pos q]; rfl))
          | [], hk, hs, h30, fin => simp at hk
        · obtain ⟨o5, o6⟩ := mOps_lt o3
          rw [if_pos o5, if_neg o6] at hk
          simp only [Bool.and_eq_true, decide_eq_true_eq] at hk
          refine bX10_touchOf_83 hw1 i rfl (by omega) (fun z => absurd (s3.symm.trans z) (by decide)) (fun _ => ?_)
          refine bX10_touchOf_93 hw1 i rfl (by omega) (fun _ => ?_) (fun z => absurd (s3.symm.trans z) (by decide))
          refine bX10_touchOf_149 hw1 i rfl (by omega) (fun _ => ?_) (fun z => absurd (s3.symm.trans z) (by decide))
          match st, hk, hs, h30, fin with
          | b :: a :: r, hk, hs, h30, fin =>
            simp only [List.length_cons] at hk hs h30 fin ⊢
            have e3 : nI (r.length + 1 + 1) + (-1) = nI (r.length + 1) := pk_m1 _
            have e4 : nI (r.length + 1) - 1 = nI r.length := nI_pred _
            refine bX10_touchOf_192 hw1 i rfl (by omega) r.length (by rw [e3, e4]) (by omega) (r.length + 1) e3 (by omega) ?_
            have g1 : pw_I w1 69 r.length = a := by rw [hs _ (by omega), show r.length + 1 + 1 - 1 - r.length = 1 by omega]; rfl
            have g2 : pw_I w1 69 (r.length + 1) = b := by rw [hs _ (by omega), show r.length + 1 + 1 - 1 - (r.length + 1) = 0 by omega]; rfl
            rw [g1, g2, e3, mDone o3]
            refine fin (hX1_joined c a b :: r) _ (ag.sI (by simp)) (by simp only [List.length_cons]; omega) (by simpa using hk.2) (fun j hj => ?_) (by unfold fStep; rw [if_pos o5, if_neg o6])
            simp only [List.length_cons] at hj ⊢
            by_cases hjr : j = r.length
            · subst hjr
              rw [pw_same, show r.length + 1 - 1 - r.length = 0 by omega]; rfl
            · rw [pw_oth (fun _ z => hjr z), hs j (by omega), show r.length + 1 + 1 - 1 - j = (r.length - 1 - j) + 1 + 1 by omega, show r.length + 1 - 1 - j = (r.length - 1 - j) + 1 by omega]
              rfl
          | [], hk, hs, h30, fin => simp at hk
          | [a], hk, hs, h30, fin => simp at hk
    exact key 0 (Nat.zero_le _) [] w0 ha0 hask0 (by decide) (by rw [List.drop_zero]; exact hok) (fun j hj => absurd hj (Nat.not_lt_zero _)) (by rw [List.drop_zero])
  · obtain ⟨-, rfl⟩ | ⟨hh2, -⟩ := hf
    · rw [fClampM]
      exact k _ (((((ag.sI (by simp)).tr (ag.sI (by simp))).tr (ag.sI (by simp))).tr (ag.sI (by simp))).tr (ag.sI (by simp)))
    · rw [hh2] at hh
      exact absurd hh (by decide)
