section TIE
variable {T : Nat → Nat} {n : Nat} {S L : Nat → Nat → List Nat → Nat → List Int32 → Prop} {Bd : Nat × Nat → Prop} {Dn : Nat → Nat → List Int32 → Prop}
theorem rc_tie (hR : FRu T n S L Bd Dn) : ∀ m lv wi c B, lv ≤ 5 → (7 - wi) * 6 + (5 - lv) < m → BX9 T n lv wi c B → (∀ e, rc T n m lv wi c = .inl e → Bd e) → (∀ z ext prx, rc T n m lv wi c = .inr z → EX9 T n lv z.1 z.2.1 z.2.2 ext prx B wi → L z.1 z.2.1 (ext ++ B) (wi + nts ext) prx) → S c.1 c.2.1 B wi c.2.2 := by
  intro m
  induction m with
  | zero => intro lv wi c B _ h; omega
  | succ m ih =>
    intro lv wi c B hlv hm hX kB kL
    obtain ⟨b1, b2, b3, b4, b5, b6, b7, b8, b9⟩ := hX
    have sI : sI9 B wi := ⟨b2, b3, b4, by omega⟩
    have tn := tE_le (T := T) b6
    by_cases h1 : 4 < lv
    · have l5 : lv = 5 := by omega
      subst l5
      refine hR.2.1 c.1 c.2.1 B wi c.2.2 sI b7 b8 (b9 (by decide)) (fun h2 h3 h4 => ?_) (fun h2 h3 h4 => ?_) (fun h2 h3 => kB _ ?_)
      · have EQ : rc T n (m + 1) 5 wi c = pB (rc T n m 0 (wi + 1) (tE T n c.1, c.2.1 + 1, c.2.2)) (fun z => if tC T n z.1 = 5 ∧ tV T n z.1 = 41 then .inr (tE T n z.1, z.2) else .inl (rfu T n z.1)) := by
          rw [rc, if_pos h1, if_pos h2, if_neg (by omega)]
        refine ih 0 (wi + 1) (tE T n c.1, c.2.1 + 1, c.2.2) (20 :: B) (by decide) (by omega) ⟨Or.inl rfl, fun x hx => ?_, ?_, by omega, ?_, tn, ?_, ?_, fun z => absurd z (by decide)⟩ (fun e he => kB e ?_) (fun z ext prx hz hE => ?_)
        · rcases List.mem_cons.mp hx with q | q
          · rw [q]; decide
          · exact b2 x q
        · rw [nts_cons, if_neg (by decide)]; omega
        · show B.length + 1 ≤ _; omega
        · show c.2.1 + 1 ≤ 30; omega
        · show c.2.2.length + (B.length + 1) ≤ 9 * (c.2.1 + 1) + (wi + 1); omega
        · rw [EQ, he]; rfl
        · rw [hz, pB_R] at EQ
          obtain ⟨e1, e2, e3, e4, e5, e6, e7⟩ := hE
          have hin : 20 ∈ ext ++ 20 :: B := List.mem_append.mpr (Or.inr List.mem_cons_self)
          have cl : clo 0 (ext ++ 20 :: B) (wi + 1 + nts ext) prx = (20 :: B, wi + 1, z.2.2) := by
            rw [clo_ext ext (wi + 1) prx (fun x hx => ⟨(e2 x hx).1, Nat.zero_le _⟩), e1]
            exact clo_base (fun x B' q => Or.inl (by cases q; rfl))
          have ll : (ext ++ 20 :: B).length = ext.length + (B.length + 1) := by rw [List.length_append]; rfl
          have hl2 : prx.length + (ext ++ 20 :: B).length = z.2.2.length + (B.length + 1) := by
            rw [← e1, ll, List.length_append, List.length_map]; omega
          by_cases h5 : tC T n z.1 = 5 ∧ tV T n z.1 = 41
          · rw [if_pos h5] at EQ
            refine hR.2.2.2.1 z.1 z.2.1 _ _ prx B wi z.2.2 e3 e4 (by omega) h5 hin cl ?_
            have := kL (tE T n z.1, z.2) [] z.2.2 EQ ⟨List.append_nil _, fun x hx => absurd hx List.not_mem_nil, sI, e4, tE_le e5, ?_, fun q => Or.inl ?_⟩
            · exact this
            · show z.2.2.length + B.length + 1 ≤ 9 * z.2.1; omega
            · have := (emi_b _ (sgn_st q).1).2
              show _ < 7
              omega
          · rw [if_neg h5] at EQ
            refine hR.2.2.2.2 z.1 z.2.1 _ _ prx e3 e4 (by omega) (fun q => h5 q.1) (fun q => ?_) (fun _ => kB _ EQ) (fun q => absurd hin q)
            rcases e7 q with y | y
            · have y : tig (sgn T n z.1) < 1 := y
              have := (by decide : ∀ x ∈ stS, 1 ≤ tig x) _ (sgn_st q).1
              omega
            · exact y
      · have EQ : rc T n (m + 1) 5 wi c = .inr (tE T n c.1, c.2.1 + 1, c.2.2 ++ [uAt T n c.1]) := by
          rw [rc, if_pos h1, if_neg h2, if_neg h3, if_neg h4]
        have ll : (c.2.2 ++ [uAt T n c.1]).length = c.2.2.length + 1 := by rw [List.length_append]; rfl
        have := kL _ [] (c.2.2 ++ [uAt T n c.1]) EQ ⟨List.append_nil _, fun x hx => absurd hx List.not_mem_nil, sI, ?_, tn, ?_, fun q => Or.inl ?_⟩
        · exact this
        · show c.2.1 + 1 ≤ 30; omega
        · show (c.2.2 ++ [uAt T n c.1]).length + B.length + 1 ≤ 9 * (c.2.1 + 1); omega
        · have := (emi_b _ (sgn_st q).1).2
          show _ < 7
          omega
      · rw [rc, if_pos h1]
        by_cases q : tC T n c.1 = 5 ∧ tV T n c.1 = 40
        · have := h2 q
          rw [if_pos q, if_pos (by omega)]
        · rw [if_neg q]
          by_cases y : uAt T n c.1 = -100
          · rw [if_pos y]
          · rw [if_neg y, if_pos ((h3 q).resolve_left y)]
    · by_cases h2 : lv = 2 ∧ tC T n c.1 = 4 ∧ tV T n c.1 = 14
      · obtain ⟨l2, h2⟩ := h2
        subst l2
        refine hR.1 c.1 c.2.1 B wi c.2.2 sI b7 b8 h2 (mNot_base b1) (fun h3 => ?_) (fun h3 => kB _ ?_)
        · have EQ : rc T n (m + 1) 2 wi c = pB (rc T n m 2 (wi + 1) (tE T n c.1, c.2)) (fun z => .inr (z.1, z.2.1, z.2.2 ++ [-6])) := by
            rw [rc, if_neg h1, if_pos ⟨rfl, h2⟩, if_neg (by omega)]
          refine ih 2 (wi + 1) (tE T n c.1, c.2) (21 :: B) (by decide) (by omega) ⟨Or.inr (by decide), fun x hx => ?_, ?_, by omega, ?_, tn, b7, ?_, fun z => absurd z (by decide)⟩ (fun e he => kB e ?_) (fun z ext prx hz hE => ?_)
          · rcases List.mem_cons.mp hx with q | q
            · rw [q]; decide
            · exact b2 x q
          · rw [nts_cons, if_pos rfl]; omega
          · show B.length + 1 ≤ _; omega
          · show c.2.2.length + (B.length + 1) ≤ 9 * c.2.1 + (wi + 1); omega
          · rw [EQ, he]; rfl
          · rw [hz, pB_R] at EQ
            obtain ⟨e1, e2, e3, e4, e5, e6, e7⟩ := hE
            have as : ext ++ 21 :: B = (ext ++ [21]) ++ B := by simp
            have nn : wi + 1 + nts ext = wi + nts (ext ++ [21]) := by
              rw [nts_app, nts_cons, if_pos rfl]
              have : nts [] = 0 := rfl
              omega
            rw [as] at e3 e6 e7 ⊢
            rw [nn] at e3 ⊢
            refine kL (z.1, z.2.1, z.2.2 ++ [-6]) (ext ++ [21]) prx EQ ⟨?_, fun x hx => ?_, e3, e4, e5, e6, e7⟩
            · show prx ++ (ext ++ [21]).map emi = z.2.2 ++ [-6]
              rw [List.map_append, ← List.append_assoc, e1]; rfl
            · rcases List.mem_append.mp hx with q | q
              · exact e2 x q
              · rw [List.mem_singleton.mp q]; decide
        · rw [rc, if_neg h1, if_pos ⟨rfl, h2⟩, if_pos (by omega)]
      · have EQ : rc T n (m + 1) lv wi c = pB (rc T n m (lv + 1) wi c) (rcL T n lv (rc T n m (lv + 1) wi) 30 0) := by
          rw [rc, if_neg h1, if_neg h2]
        refine ih (lv + 1) wi c B (by omega) (by omega) ⟨Bs_up b1, b2, b3, b4, by omega, b6, b7, b8, fun l3 => ?_⟩ (fun e he => kB e ?_) (fun z ext prx hz hE => ?_)
        · by_cases l2 : lv = 2
          · exact fun q => h2 ⟨l2, q.1⟩
          · exact b9 (by omega)
        · rw [EQ, he]; rfl
        · rw [hz, pB_R] at EQ
          obtain ⟨e1, e2, e3, e4, e5, e6, e7⟩ := hE
          have mo := rc_mono (T := T) (n := n) _ _ _ _ _ hz b4 b6
          refine rcL_tie hR (lv := lv) (by omega) b1 b2 b3 b4 b5 (fun c z h hc => rc_mono _ _ _ c z h b4 hc) (fun c B' hb k1 k2 => ih (lv + 1) wi c B' (by omega) (by omega) hb k1 k2) 30 0 z ext prx (by have := mo.2.2.1; omega) e1 (fun x hx => ⟨(e2 x hx).1, Nat.le_trans (tvK_tvL lv).1 (e2 x hx).2⟩) (fun _ x hx => (e2 x hx).2) (fun _ q => absurd q (by decide)) e3 e4 e5 e6 e7 (fun e he => kB e (EQ.trans he)) (fun z3 x3 p3 h3 => kL z3 x3 p3 (EQ.trans h3))
/-- the whole formula -/
theorem rc_tie0 (hR : FRu T n S L Bd Dn) {p : Nat} (hp : p ≤ n) (kB : ∀ e, rc T n 48 0 0 (p, 0, []) = .inl e → Bd e) (kD : ∀ z, rc T n 48 0 0 (p, 0, []) = .inr z → Dn z.1 z.2.1 z.2.2) : S p 0 [] 0 [] := by
  refine rc_tie hR 48 0 0 (p, 0, []) [] (by decide) (by decide) ⟨trivial, fun x hx => absurd hx List.not_mem_nil, Nat.le_refl _, by decide, Nat.le_refl _, hp, Nat.zero_le _, Nat.le_refl _, fun z => absurd z (by decide)⟩ kB (fun z ext prx hz hE => ?_)
  obtain ⟨e1, e2, e3, e4, e5, e6, e7⟩ := hE
  have n20 : ¬ 20 ∈ ext ++ [] := fun q => by
    rw [List.append_nil] at q
    exact (e2 20 q).1 rfl
  refine hR.2.2.2.2 z.1 z.2.1 _ _ prx e3 e4 (by omega) (fun q => n20 q.2) (fun q => ?_) (fun q => absurd q n20) (fun _ => ?_)
  · rcases e7 q with y | y
    · have y : tig (sgn T n z.1) < 1 := y
      have := (by decide : ∀ x ∈ stS, 1 ≤ tig x) _ (sgn_st q).1
      omega
    · exact y
  · rw [clo_ext ext 0 prx (fun x hx => ⟨(e2 x hx).1, Nat.zero_le _⟩), e1]
    exact kD z hz
end TIE
