section TKC
variable {T : Nat → Nat} {n p : Nat}
theorem tk_w (h : tQ T n p < tL T n p) : tE T n p = tL T n p ∧ tC T n p = (if 8 < tL T n p - tQ T n p then 1 else if tW T n p ∈ kwS then 4 else 3) ∧ tV T n p = kwS.idxOf (tW T n p) := ⟨if_pos h, if_pos h, if_pos h⟩
theorem tk_d (h1 : ¬ tQ T n p < tL T n p) (h : tQ T n p < tD T n p) : tE T n p = tD T n p ∧ tC T n p = (if 4 < tD T n p - tQ T n p ∨ cL T n (tD T n p) = true then 1 else 2) ∧ tV T n p = nV T (tQ T n p) (tD T n p - tQ T n p) := ⟨(if_neg h1).trans (if_pos h), (if_neg h1).trans (if_pos h), (if_neg h1).trans (if_pos h)⟩
theorem tk_e (h1 : ¬ tQ T n p < tL T n p) (h2 : ¬ tQ T n p < tD T n p) (h : n ≤ tQ T n p) : tE T n p = tQ T n p ∧ tC T n p = 0 := ⟨(if_neg h1).trans ((if_neg h2).trans (if_pos h)), (if_neg h1).trans ((if_neg h2).trans (if_pos h))⟩
theorem tk_s (h1 : ¬ tQ T n p < tL T n p) (h2 : ¬ tQ T n p < tD T n p) (h : ¬ n ≤ tQ T n p) : tE T n p = tQ T n p + 1 ∧ tC T n p = (if T (tQ T n p) ∈ sgS then 5 else 1) ∧ tV T n p = T (tQ T n p) := ⟨(if_neg h1).trans ((if_neg h2).trans (if_neg h)), (if_neg h1).trans ((if_neg h2).trans (if_neg h)), (if_neg h1).trans (if_neg h2)⟩
theorem tW_nil (h1 : ¬ tQ T n p < tL T n p) : tW T n p = [] := by
  unfold tW
  rw [show tL T n p - tQ T n p = 0 by omega]
  rfl
end TKC
section XSC
variable {E : px_E} {d : Nat} {w : pw_W} {Q : Option Value → pw_W → Prop} {t : ct_T} {T : Nat → Nat} {n p : Nat}
theorem tX6_takeNumber {q a : Nat} (hw : w.1 = cs t) (htx : t.2.2 = 2) (hT : ∀ i, i < n → T i < 256) (hn : n ≤ 1600) (hq : q ≤ n) (haq : a ≤ q) (h0 : ∀ i, i < n → pw_I w 2 i = js_i2b (nI (T i))) (h2 : pw_I w 17 2 = nI n) (h3 : pw_I w 17 3 = nI q) (h7 : pw_I w 17 7 = nI a)
    (k1 : (4 < q - a ∨ cL T n q = true) → Q none (pw_sI w 17 4 1)) (k2 : ¬ (4 < q - a ∨ cL T n q = true) → Q none (pw_sI w 17 4 2)) : px_Call E (d + 1) 0 0 mX6_takeNumber [.ref 17] w Q := by
  have hs : pw_I w 17 3 - pw_I w 17 7 = nI (q - a) := by rw [h3, h7, pk_sub haq]
  have bad : (4 < q - a ∨ cL T n q = true) → px_W E mX6_takeNumber (d + 1) 0 0 63 [.null, .null] [.ref 17] w Q := fun h => bX6_takeNumber_63 hw htx (bX6_takeNumber_68 hw htx (k1 h))
  have f0 : ¬ cL T n q = true → px_W E mX6_takeNumber (d + 1) 0 0 43 [.ref 17, .null] [] w Q := fun h => by
    refine bX6_takeNumber_43 hw htx (bX6_takeNumber_44 hw htx (fun z => ?_) (fun z _ => ?_) (fun _ z => absurd rfl z))
    · rw [hs] at z
      refine bad (Or.inl ?_)
      rcases Nat.lt_or_ge 4 (q - a) with h4 | h4
      · exact h4
      · exact absurd z (nI_nlt (b := q - a) (a := 4) h4 (by omega))
    · rw [hs] at z
      refine bX6_takeNumber_68 hw htx (k2 (fun h4 => h4.elim (fun h5 => z (nI_lt (a := 4) h5 (by omega))) h))
  have f1 : cL T n q = true → px_W E mX6_takeNumber (d + 1) 0 0 44 [.ref 17, .null] [.int 1] w Q := fun h => by
    exact bX6_takeNumber_44 hw htx (fun z => bad (Or.inr h)) (fun _ z => absurd z (by decide)) (fun _ _ => bad (Or.inr h))
  refine eX6_takeNumber hw htx (fun z => ?_) (fun z => ?_) <;> rw [h2, h3] at z
  · refine f0 (fun h => ?_)
    have := (of_decide_eq_true h).1
    exact nI_ge this (by omega) z
  · have hlt : q < n := by
      rcases Nat.lt_or_ge q n with h | h
      · exact h
      · exact absurd (nI_le h (by omega)) z
    have t9 := hT q hlt
    have hr := h0 q hlt
    refine bX6_takeNumber_11 hw htx q h3 (by omega) (fun z => ?_) (fun z => ?_) <;> rw [hr] at z
    · have z := (bt_lt (k := 97) t9 (by decide)).mp z
      exact f0 (fun h => by have := of_decide_eq_true h; omega)
    · have z1 : ¬ (T q < 97 ∨ 128 ≤ T q) := fun e => z ((bt_lt (k := 97) t9 (by decide)).mpr e)
      refine bX6_takeNumber_25 hw htx q h3 (by omega) (fun z => ?_) (fun z => ?_) <;> rw [hr] at z
      · have z := (bt_gt (k := 122) t9 (by decide)).mp z
        exact f0 (fun h => by have := of_decide_eq_true h; omega)
      · have z2 : ¬ (122 < T q ∧ T q < 128) := fun e => z ((bt_gt (k := 122) t9 (by decide)).mpr e)
        exact f1 (decide_eq_true ⟨hlt, by omega, by omega⟩)
theorem tX6_advance (hw : w.1 = cs t) (htx : t.2.2 = 2) (hT : ∀ i, i < n → T i < 256) (hn : n ≤ 1600) (hp : p ≤ n) (h0 : ∀ i, i < n → pw_I w 2 i = js_i2b (nI (T i))) (h2 : pw_I w 17 2 = nI n) (h3 : pw_I w 17 3 = nI p) (hK : XK w)
    (k : ∀ w', w'.1 = cs t → ag [17] w w' → XTk T n p w' → Q none w') : px_Call E (d + 6) 0 0 mX6_advance [.ref 17] w Q := by
  have q1 := tQ_le (T := T) hp
  have q2 := tL_le (T := T) hp
  have q3 := tD_le (T := T) hp
  refine px_enter (k := 0) (by decide) (Nat.le_of_ble_eq_true rfl) rfl (px_forget (ls' := [.ref 17]) ?_ ⟨Or.inr rfl, trivial⟩)
  refine xA1 (d := d + 4) (w0 := w) htx hT hn hp h0 (fun w1 hw1 a1 b2 b3 => ?_) (n - p) p w (by omega) (Nat.le_refl _) (fun i i1 i2 => absurd i1 (by omega)) hw ag.rf h2 h3
  refine bX6_advance_52 hw1 htx ?_
  refine xA2 (d := d + 4) (w0 := w) htx hT hn hp h0 (fun w2 hw2 a2 c2 c3 c7 c6 => ?_) (n - tQ T n p) (tQ T n p) _ (by omega) (Nat.le_refl _) (fun i i1 i2 => absurd i1 (by omega)) (hL (hI hw1)) (a1.tr ((ag.sI (by decide)).tr (ag.sL (by decide)))) ?_ ?_ ?_ ?_
  · refine bX6_advance_137 hw2 htx (fun z => ?_) (fun z => ?_) <;> rw [c3, c7] at z
    · have e1 : ¬ tQ T n p < tL T n p := fun h => nI_ge h (by omega) z
      have e2 : tL T n p = tQ T n p := by omega
      refine xA3 (d := d + 4) (w0 := w) htx hT hn hp h0 (pw_L w2 17 6) (fun w3 hw3 a3 d2 d3 d7 d6 d5 => ?_) (n - tQ T n p) (tQ T n p) _ (by omega) (Nat.le_refl _) (fun i i1 i2 => absurd i1 (by omega)) (hI hw2) (a2.tr (ag.sI (by decide))) ?_ ?_ ?_ rfl ?_
      · refine bX6_advance_234 hw3 htx (fun z => ?_) (fun z => ?_) <;> rw [d3, d7] at z
        · have e3 : ¬ tQ T n p < tD T n p := fun h => nI_ge h (by omega) z
          have e4 : tD T n p = tQ T n p := by omega
          by_cases he : n ≤ tQ T n p
          · obtain ⟨r1, r2⟩ := tk_e e1 e3 he
            refine eX6_takeSignOrEnd hw3 (fun z => absurd z (by rw [d3, d2, e4]; exact nI_nlt he (by omega))) (fun _ => ?_)
            refine bX6_advance_256 (hI hw3) htx (k _ (hI hw3) (a3.tr (ag.sI (by decide))) ⟨?_, ?_, ?_, ?_, ?_, fun h => ?_⟩)
            · rw [pw_oth (by decide)]; exact d2
            · rw [pw_oth (by decide), d3, e4, r1]
            · rw [pw_same, r2]; rfl
            · rw [pw_oth (by decide)]; exact d7
            · rw [pw_L_I, d6]; exact c6
            · rw [r2] at h; omega
          · obtain ⟨r1, r2, r3⟩ := tk_s e1 e3 he
            have fin : ∀ x v, tC T n p = x → (x = 5 → v = nI (T (tQ T n p))) → (x = 1 ∨ x = 5) → Q none (pw_sI (pw_sI (pw_sI w3 17 5 v) 17 4 (nI x)) 17 3 (nI (tQ T n p + 1))) := fun x v hx hv hx2 => by
              refine k _ (hI (hI (hI hw3))) (a3.tr ((ag.sI (by decide)).tr ((ag.sI (by decide)).tr (ag.sI (by decide))))) ⟨?_, ?_, ?_, ?_, ?_, fun h => ?_⟩
              · rw [pw_oth (by decide), pw_oth (by decide), pw_oth (by decide)]; exact d2
              · rw [pw_same, r1]
              · rw [pw_oth (by decide), pw_same, hx]
              · rw [pw_oth (by decide), pw_oth (by decide), pw_oth (by decide)]; exact d7
              · rw [pw_L_I, pw_L_I, pw_L_I, d6]; exact c6
              · rw [pw_oth (by decide), pw_oth (by decide), pw_same, r3]
                exact hv (by omega)
            refine tX6_takeSign (c := T (tQ T n p)) (n := n) (j := tQ T n p) hw3 htx (hT _ (by omega)) (by rw [d3, e4]) d2 (by omega) hn ((a3.I (by decide) _).trans (h0 _ (by omega))) (fun hm => ?_) (fun hm v => ?_)
            · exact bX6_advance_256 (hI (hI (hI hw3))) htx (fin 5 _ (by rw [r2, if_pos hm]) (fun _ => rfl) (Or.inr rfl))
            · exact bX6_advance_256 (hI (hI (hI hw3))) htx (fin 1 _ (by rw [r2, if_neg hm]) (fun h => absurd h (by decide)) (Or.inl rfl))
        · have e3 : tQ T n p < tD T n p := by
            rcases Nat.lt_or_ge (tQ T n p) (tD T n p) with h | h
            · exact h
            · exact absurd (nI_le h (by omega)) z
          obtain ⟨r1, r2, r3⟩ := tk_d e1 e3
          have fin : ∀ x, tC T n p = x → Q none (pw_sI w3 17 4 (nI x)) := fun x hx => by
            refine k _ (hI hw3) (a3.tr (ag.sI (by decide))) ⟨?_, ?_, ?_, ?_, ?_, fun h => ?_⟩
            · rw [pw_oth (by decide)]; exact d2
            · rw [pw_oth (by decide), d3, r1]
            · rw [pw_same, hx]
            · rw [pw_oth (by decide)]; exact d7
            · rw [pw_L_I, d6]; exact c6
            · rw [pw_oth (by decide), d5, r3]
          refine tX6_takeNumber (T := T) (n := n) (q := tD T n p) (a := tQ T n p) hw3 htx hT hn q3.2 q3.1 (fun i hi => (a3.I (by decide) _).trans (h0 _ hi)) d2 d3 d7 (fun h => ?_) (fun h => ?_)
          · exact bX6_advance_249 (hI hw3) htx (bX6_advance_256 (hI hw3) htx (fin 1 (by rw [r2, if_pos h])))
          · exact bX6_advance_249 (hI hw3) htx (bX6_advance_256 (hI hw3) htx (fin 2 (by rw [r2, if_neg h])))
      · rw [pw_oth (by decide)]; exact c2
      · rw [pw_oth (by decide), c3, e2]
      · rw [pw_oth (by decide)]; exact c7
      · rw [pw_same, Nat.sub_self]; rfl
    · have e1 : tQ T n p < tL T n p := by
        rcases Nat.lt_or_ge (tQ T n p) (tL T n p) with h | h
        · exact h
        · exact absurd (nI_le h (by omega)) z
      obtain ⟨r1, r2, r3⟩ := tk_w e1
      have hs : pw_I w2 17 3 - pw_I w2 17 7 = nI (tL T n p - tQ T n p) := by rw [c3, c7, pk_sub (by omega)]
      refine eX6_takeWord hw2 (fun z => ?_) (fun z => ?_) <;> rw [hs] at z
      · have h8 : ¬ 8 < tL T n p - tQ T n p := fun h => nI_ge (a := 8) h (by omega) z
        have l8 : (tW T n p).length ≤ 8 := by rw [tW_len]; omega
        have b3 : ag [17] w (pw_sI w2 17 4 3) := a2.tr (ag.sI (by decide))
        refine tX6_words (w0 := pw_sI w2 17 4 3) (t := t) (hK.ag b3 (by decide)) (tW T n p) tW_lwr l8 (fun hm w' hw' a' f1 f2 g4 g5 => ?_) (fun hm w' hw' a' f1 f2 g4 => ?_) c6 20 0 _ rfl (hI hw2) ag.rf (fun _ _ _ => rfl) (fun _ => rfl) (fun h => absurd h (Nat.not_lt_zero _)) (fun _ => pw_same)
        · refine bX6_advance_152 hw' htx (k w' hw' (b3.tr a') ⟨?_, ?_, ?_, ?_, ?_, fun h => ?_⟩)
          · rw [f1 2 (by decide) (by decide), pw_oth (by decide)]; exact c2
          · rw [f1 3 (by decide) (by decide), pw_oth (by decide), c3, r1]
          · rw [g4, r2, if_neg h8, if_pos hm]; rfl
          · rw [f1 7 (by decide) (by decide), pw_oth (by decide)]; exact c7
          · rw [f2]; exact c6
          · rw [g5, r3]
        · have e4 : tC T n p = 3 := by rw [r2, if_neg h8, if_neg hm]
          refine bX6_advance_152 hw' htx (k w' hw' (b3.tr a') ⟨?_, ?_, ?_, ?_, ?_, fun h => ?_⟩)
          · rw [f1 2 (by decide) (by decide), pw_oth (by decide)]; exact c2
          · rw [f1 3 (by decide) (by decide), pw_oth (by decide), c3, r1]
          · rw [g4, e4]; rfl
          · rw [f1 7 (by decide) (by decide), pw_oth (by decide)]; exact c7
          · rw [f2]; exact c6
          · rw [e4] at h; omega
      · have h8 : 8 < tL T n p - tQ T n p := by
          rcases Nat.lt_or_ge 8 (tL T n p - tQ T n p) with h | h
          · exact h
          · exact absurd (nI_le (b := 8) h (by omega)) z
        have e4 : tC T n p = 1 := by rw [r2, if_pos h8]
        refine bX6_advance_152 (hI hw2) htx (k _ (hI hw2) (a2.tr (ag.sI (by decide))) ⟨?_, ?_, ?_, ?_, ?_, fun h => ?_⟩)
        · rw [pw_oth (by decide)]; exact c2
        · rw [pw_oth (by decide), c3, r1]
        · rw [pw_same, e4]; rfl
        · rw [pw_oth (by decide)]; exact c7
        · rw [pw_L_I]; exact c6
        · rw [e4] at h; omega
  · rw [pw_I_L, pw_oth (by decide)]; exact b2
  · rw [pw_I_L, pw_oth (by decide)]; exact b3
  · rw [pw_I_L, pw_same]; exact b3
  · rw [pw_L_sL, if_pos ⟨rfl, rfl⟩, Nat.sub_self]; rfl
end XSC
