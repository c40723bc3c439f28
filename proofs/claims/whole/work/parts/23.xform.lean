/-! the class's formula -/
theorem fClampX (v : Int32) : js_max 0 (js_min 20 v) = nI (fClamp v) := by
  unfold js_max js_min fClamp
  by_cases h1 : v < 0
  · rw [if_pos h1, if_pos (Int32.lt_trans h1 (by decide)), if_neg (fun z => Int32.lt_irrefl (Int32.lt_trans z h1))]
    rfl
  · rw [if_neg h1]
    obtain ⟨j, hj, rfl⟩ := nI_of h1
    by_cases h2 : (20 : Int32) < nI j
    · have h3 : ¬ nI j < 20 := fun z => Int32.lt_irrefl (Int32.lt_trans z h2)
      rw [if_pos h2, if_neg h3, if_pos (by decide)]
      rfl
    · rw [if_neg h2, nI_clamp hj]
      have hj2 := za_nlt (a := 20) (b := j) (by omega) hj h2
      by_cases h3 : nI j < 20
      · rw [if_pos h3]
        by_cases h4 : (0 : Int32) < nI j
        · rw [if_pos h4]
        · rw [if_neg h4]
          have : j ≤ 0 := za_nlt (a := 0) (b := j) (by omega) hj h4
          rw [show j = 0 by omega]
          rfl
      · rw [if_neg h3, if_pos (by decide)]
        have : 20 ≤ j := za_nlt (a := j) (b := 20) hj (by omega) h3
        rw [show j = 20 by omega]
        rfl
theorem tX1_lumpsLeft {E : px_E} {d : Nat} {w : pw_W} {Q : Option Value → pw_W → Prop} {t : ct_T} (hw : w.1 = cs t) {r0 : Nat} (hr0 : is_Formula r0) {pr : List Int32} (hlen : pw_I w r0 2 = nI pr.length) (hle : pr.length ≤ 270) (hst : ∀ i, i < pr.length → pw_I w (r0 + 1) i = pr.getD i 0) (hok : fOK pr 0 = true) (own other sore day : Int32)
    (k : ∀ w', ag [r0 + 2] w w' → Q (some (.int (nI (fClamp ((fRun own other sore day pr []).getD 0 0))))) w') :
    px_Call E (d + 2) 0 0 mX1_lumpsLeft [.ref r0, .int own, .int other, .int sore, .int day] w Q := by
  refine eX1_lumpsLeft hw hr0 ?_
  have n1 : r0 ∉ [r0 + 2] := by simp
  have n2 : r0 + 1 ∉ [r0 + 2] := by simp
  have key : ∀ i, i ≤ pr.length → ∀ (st : List Int32) (w1 : pw_W), ag [r0 + 2] w w1 → st.length ≤ 30 → fOK (pr.drop i) st.length = true → (∀ j, j < st.length → pw_I w1 (r0 + 2) j = st.getD (st.length - 1 - j) 0) → fRun own other sore day (pr.drop i) st = fRun own other sore day pr [] →
      px_W E mX1_lumpsLeft (d + 2) 0 0 6 [.ref r0, .int own, .int other, .int sore, .int day, .int (nI st.length), .int (nI i), .null] [] w1 Q := by
    refine za_up pr.length _ (fun i hi ih => ?_)
    intro st w1 ha h30 hk hs hr
    have hw1 : w1.1 = cs t := ha.1.trans hw
    have e1 : pw_I w1 r0 2 = nI pr.length := (ha.I n1 2).trans hlen
    refine bX1_lumpsLeft_6 hw1 hr0 (fun h1 h2 => ?_) (fun h1 h2 => ?_) (fun h1 => ?_)
    · rw [e1] at h1
      have : i = pr.length := by have := za_le (by omega) (by omega) h1; omega
      subst this
      rw [List.drop_length] at hk
      have hl : st.length = 1 := of_decide_eq_true hk
      rw [hl] at h2
      exact absurd rfl h2
    · rw [e1] at h1
      have : i = pr.length := by have := za_le (by omega) (by omega) h1; omega
      subst this
      rw [List.drop_length] at hr hk
      have hl : st.length = 1 := of_decide_eq_true hk
      refine bX1_lumpsLeft_170 hw1 hr0 (bX1_lumpsLeft_189 hw1 hr0 ?_)
      rw [fClampX, hs 0 (by omega), hl]
      have e : st = fRun own other sore day pr [] := hr
      rw [e]
      exact k w1 ha
    · rw [e1] at h1
      have hlt : i < pr.length := za_nle (by omega) (by omega) h1
      have e2 : pw_I w1 (r0 + 1) i = pr.getD i 0 := (ha.I n2 i).trans (hst i hlt)
      have hd : pr.drop i = pr.getD i 0 :: pr.drop (i + 1) := by
        rw [List.drop_eq_getElem_cons hlt, List.getD_eq_getElem?_getD, List.getElem?_eq_getElem hlt]
        rfl
      rw [hd] at hk hr
      generalize pr.getD i 0 = c at e2 hk hr
      have fin : ∀ (st' : List Int32) (w2 : pw_W), ag [r0 + 2] w w2 → st'.length ≤ 30 → fOK (pr.drop (i + 1)) st'.length = true → (∀ j, j < st'.length → pw_I w2 (r0 + 2) j = st'.getD (st'.length - 1 - j) 0) → fStep own other sore day c st = st' →
          px_W E mX1_lumpsLeft (d + 2) 0 0 158 [.ref r0, .int own, .int other, .int sore, .int day, .int (nI st'.length), .int (nI i), .null] [] w2 Q := by
        intro st' w2 h1 h2 h3 h4 h5
        refine bX1_lumpsLeft_158 (h1.1.trans hw) hr0 ?_
        rw [nI_1]
        refine ih hlt st' w2 h1 h2 h3 h4 ?_
        rw [← hr, ← h5]
        rfl
      unfold fOK at hk
      refine bX1_lumpsLeft_15 hw1 hr0 i rfl (by omega) (fun a1 a2 a3 => ?_) (fun a1 a2 a3 => ?_) (fun a1 a2 a3 => ?_) (fun a1 a2 a3 => ?_) (fun a1 a2 a3 => ?_) (fun a1 a2 a3 => ?_) (fun a1 a2 => ?_) <;> rw [e2] at a1
      · rw [e2] at a2 ⊢
        rw [if_pos a1, if_neg a2] at hk
        simp only [Bool.and_eq_true, decide_eq_true_eq] at hk
        match st, hk, hs, h30, fin, a3 with
        | b :: a :: r, hk, hs, h30, fin, a3 =>
          simp only [List.length_cons] at hk hs h30 a3 fin ⊢
          have e3 : nI (r.length + 1 + 1) + (-1) = nI (r.length + 1) := pk_m1 _
          have e4 : nI (r.length + 1) - 1 = nI r.length := nI_pred _
          refine bX1_lumpsLeft_125 hw1 hr0 r.length (by rw [e3, e4]) (by omega) (r.length + 1) e3 (by omega) ?_
          have g1 : pw_I w1 (r0 + 2) r.length = a := by rw [hs _ (by omega), show r.length + 1 + 1 - 1 - r.length = 1 by omega]; rfl
          have g2 : pw_I w1 (r0 + 2) (r.length + 1) = b := by rw [hs _ (by omega), show r.length + 1 + 1 - 1 - (r.length + 1) = 0 by omega]; rfl
          rw [g1, g2, e3]
          refine fin (hX1_joined c a b :: r) _ (ha.tr (ag.sI (by simp))) (by simp only [List.length_cons]; omega) (by simpa using hk.2) (fun j hj => ?_) (by unfold fStep; rw [if_pos a1, if_neg a2])
          simp only [List.length_cons] at hj ⊢
          by_cases hjr : j = r.length
          · subst hjr
            rw [pw_same, show r.length + 1 - 1 - r.length = 0 by omega]; rfl
          · rw [pw_oth (fun _ z => hjr z), hs j (by omega), show r.length + 1 + 1 - 1 - j = (r.length - 1 - j) + 1 + 1 by omega, show r.length + 1 - 1 - j = (r.length - 1 - j) + 1 by omega]
            rfl
        | [], hk, hs, h30, fin, a3 => simp at hk
        | [a], hk, hs, h30, fin, a3 => simp at hk
      · rw [e2] at a2
        rw [if_pos a1, if_neg a2] at hk
        simp only [Bool.and_eq_true, decide_eq_true_eq] at hk
        exact absurd ((nI_leI (a := 2) (by omega) (by omega)).mpr hk.1) a3
      · rw [e2] at a2
        rw [if_pos a1, if_pos a2] at hk
        simp only [Bool.and_eq_true, decide_eq_true_eq] at hk
        match st, hk, hs, h30, fin, a3 with
        | a :: r, hk, hs, h30, fin, a3 =>
          simp only [List.length_cons] at hk hs h30 a3 fin ⊢
          have e4 : nI (r.length + 1) - 1 = nI r.length := nI_pred _
          have g1 : pw_I w1 (r0 + 2) r.length = a := by rw [hs _ (by omega), show r.length + 1 - 1 - r.length = 0 by omega]; rfl
          have fin2 : ∀ z : Int32, z = (if a = 0 then 1 else 0) → px_W E mX1_lumpsLeft (d + 2) 0 0 158 [.ref r0, .int own, .int other, .int sore, .int day, .int (nI (r.length + 1)), .int (nI i), .null] [] (pw_sI w1 (r0 + 2) r.length z) Q := by
            intro z hz
            refine fin (z :: r) _ (ha.tr (ag.sI (by simp))) (by simp only [List.length_cons]; omega) (by simpa using hk.2) (fun j hj => ?_) (by unfold fStep; rw [if_pos a1, if_pos a2, hz])
            simp only [List.length_cons] at hj ⊢
            by_cases hjr : j = r.length
            · subst hjr
              rw [pw_same, show r.length + 1 - 1 - r.length = 0 by omega]; rfl
            · rw [pw_oth (fun _ z => hjr z), hs j (by omega), show r.length + 1 - 1 - j = (r.length - 1 - j) + 1 by omega]
              rfl
          refine bX1_lumpsLeft_88 hw1 hr0 r.length e4 (by omega) (fun q => ?_) (fun q => ?_)
          · rw [g1] at q
            exact bX1_lumpsLeft_113 hw1 hr0 r.length e4 (by omega) (fin2 0 (by rw [if_neg q]))
          · rw [g1] at q
            exact bX1_lumpsLeft_113 hw1 hr0 r.length e4 (by omega) (fin2 1 (by rw [if_pos q]))
        | [], hk, hs, h30, fin, a3 => simp at hk
      · rw [e2] at a2
        rw [if_pos a1, if_pos a2] at hk
        simp only [Bool.and_eq_true, decide_eq_true_eq] at hk
        exact absurd ((nI_leI (a := 1) (by omega) (by omega)).mpr hk.1) a3
      all_goals rw [if_neg a1] at hk
      all_goals simp only [Bool.and_eq_true, decide_eq_true_eq] at hk
      case _ =>
        rw [e2] at a3 ⊢
        refine bX1_lumpsLeft_66 hw1 hr0 st.length rfl (by omega) ?_
        rw [nI_1]
        refine fin (hX1_known c own other sore day :: st) _ (ha.tr (ag.sI (by simp))) (by simp only [List.length_cons]; omega) (by simpa using hk.2) (fun j hj => ?_) (by unfold fStep; rw [if_neg a1, if_pos a3])
        simp only [List.length_cons] at hj ⊢
        by_cases hjr : j = st.length
        · subst hjr
          rw [pw_same, show st.length + 1 - 1 - st.length = 0 by omega]; rfl
        · rw [pw_oth (fun _ z => hjr z), hs j (by omega), show st.length + 1 - 1 - j = (st.length - 1 - j) + 1 by omega]
          rfl
      case _ =>
        rw [e2] at a3 ⊢
        refine bX1_lumpsLeft_66 hw1 hr0 st.length rfl (by omega) ?_
        rw [nI_1]
        refine fin (c :: st) _ (ha.tr (ag.sI (by simp))) (by simp only [List.length_cons]; omega) (by simpa using hk.2) (fun j hj => ?_) (by unfold fStep; rw [if_neg a1, if_neg a3])
        simp only [List.length_cons] at hj ⊢
        by_cases hjr : j = st.length
        · subst hjr
          rw [pw_same, show st.length + 1 - 1 - st.length = 0 by omega]; rfl
        · rw [pw_oth (fun _ z => hjr z), hs j (by omega), show st.length + 1 - 1 - j = (st.length - 1 - j) + 1 by omega]
          rfl
      case _ =>
        exact absurd ((nI_ltI (b := 30) (by omega) (by omega)).mpr hk.1) a2
  exact key 0 (Nat.zero_le _) [] w ag.rf (by decide) (by rw [List.drop_zero]; exact hok) (fun j hj => absurd hj (Nat.not_lt_zero _)) (by rw [List.drop_zero])
