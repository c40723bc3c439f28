/-! the tie of the reference's stack to rc -/
/-- a stack that can be -/
def sI9 (st : List Nat) (dp : Nat) : Prop := (∀ c ∈ st, c ∈ stS) ∧ nts st ≤ dp ∧ dp ≤ 7 ∧ st.length ≤ 6 * dp + 5
/-- the rules of the reference's formula -/
def FRu (T : Nat → Nat) (n : Nat) (S L : Nat → Nat → List Nat → Nat → List Int32 → Prop) (Bd : Nat × Nat → Prop) (Dn : Nat → Nat → List Int32 → Prop) : Prop :=
  (∀ p u st dp pr, sI9 st dp → u ≤ 30 → pr.length + st.length ≤ 9 * u + dp → (tC T n p = 4 ∧ tV T n p = 14) → mNot st = true → (dp ≤ 6 → S (tE T n p) u (21 :: st) (dp + 1) pr) → (¬ dp ≤ 6 → Bd (rfu T n p)) → S p u st dp pr) ∧
  (∀ p u st dp pr, sI9 st dp → u ≤ 30 → pr.length + st.length ≤ 9 * u + dp → ¬ ((tC T n p = 4 ∧ tV T n p = 14) ∧ mNot st = true) →
    (tC T n p = 5 ∧ tV T n p = 40 → ¬ 30 ≤ u → dp ≤ 6 → S (tE T n p) (u + 1) (20 :: st) (dp + 1) pr) →
    (¬ (tC T n p = 5 ∧ tV T n p = 40) → ¬ uAt T n p = -100 → ¬ 30 ≤ u → L (tE T n p) (u + 1) st dp (pr ++ [uAt T n p])) →
    ((tC T n p = 5 ∧ tV T n p = 40 → 30 ≤ u ∨ ¬ dp ≤ 6) → (¬ (tC T n p = 5 ∧ tV T n p = 40) → uAt T n p = -100 ∨ 30 ≤ u) → Bd (rfu T n p)) → S p u st dp pr) ∧
  (∀ p u st dp pr, sI9 st dp → u ≤ 30 → pr.length + st.length < 320 → sgn T n p ≠ 0 → ¬ (tig (sgn T n p) = 4 ∧ hRel st = true) → S (tE T n p) u (sgn T n p :: (clo (tig (sgn T n p)) st dp pr).1) (clo (tig (sgn T n p)) st dp pr).2.1 (clo (tig (sgn T n p)) st dp pr).2.2 → L p u st dp pr) ∧
  (∀ p u st dp pr st2 dp2 pr2, sI9 st dp → u ≤ 30 → pr.length + st.length < 320 → (tC T n p = 5 ∧ tV T n p = 41) → 20 ∈ st → clo 0 st dp pr = (20 :: st2, dp2 + 1, pr2) → L (tE T n p) u st2 dp2 pr2 → L p u st dp pr) ∧
  (∀ p u st dp pr, sI9 st dp → u ≤ 30 → pr.length + st.length < 320 → ¬ ((tC T n p = 5 ∧ tV T n p = 41) ∧ 20 ∈ st) → (sgn T n p ≠ 0 → tig (sgn T n p) = 4 ∧ hRel st = true) → (20 ∈ st → Bd (rfu T n p)) → (¬ 20 ∈ st → Dn p u (clo 0 st dp pr).2.2) → L p u st dp pr)
/-- behind rc at a level: the stack holds ext over the base -/
def EX9 (T : Nat → Nat) (n lv q u : Nat) (pr : List Int32) (ext : List Nat) (prx : List Int32) (B : List Nat) (wi : Nat) : Prop :=
  prx ++ ext.map emi = pr ∧ (∀ c ∈ ext, c ≠ 20 ∧ tvL lv ≤ tig c) ∧ sI9 (ext ++ B) (wi + nts ext) ∧ u ≤ 30 ∧ q ≤ n ∧ prx.length + (ext ++ B).length + 1 ≤ 9 * u ∧ (sgn T n q ≠ 0 → tig (sgn T n q) < tvL lv ∨ (tig (sgn T n q) = 4 ∧ hRel (ext ++ B) = true))
/-- ahead of rc at a level -/
def BX9 (T : Nat → Nat) (n lv wi : Nat) (c : FC) (B : List Nat) : Prop :=
  Bs lv B ∧ (∀ x ∈ B, x ∈ stS) ∧ nts B ≤ wi ∧ wi ≤ 7 ∧ B.length ≤ 6 * wi + lv ∧ c.1 ≤ n ∧ c.2.1 ≤ 30 ∧ c.2.2.length + B.length ≤ 9 * c.2.1 + wi ∧ (3 ≤ lv → ¬ ((tC T n c.1 = 4 ∧ tV T n c.1 = 14) ∧ mNot B = true))
section TIE
variable {T : Nat → Nat} {n : Nat} {S L : Nat → Nat → List Nat → Nat → List Int32 → Prop} {Bd : Nat × Nat → Prop} {Dn : Nat → Nat → List Int32 → Prop}
theorem rcL_tie (hR : FRu T n S L Bd Dn) {lv wi : Nat} (hlv : lv ≤ 4) {B : List Nat} {f : FC → PR FC} (hB : Bs lv B) (hBs : ∀ x ∈ B, x ∈ stS) (hBn : nts B ≤ wi) (hw : wi ≤ 7) (hBl : B.length ≤ 6 * wi + lv)
    (hm : ∀ c z, f c = .inr z → c.1 ≤ n → c.1 ≤ z.1 ∧ z.1 ≤ n ∧ c.2.1 < z.2.1 ∧ z.2.1 ≤ 30 ∧ z.2.2.length + 1 + wi ≤ c.2.2.length + 9 * (z.2.1 - c.2.1))
    (hf : ∀ c B', BX9 T n (lv + 1) wi c B' → (∀ e, f c = .inl e → Bd e) → (∀ z ext prx, f c = .inr z → EX9 T n (lv + 1) z.1 z.2.1 z.2.2 ext prx B' wi → L z.1 z.2.1 (ext ++ B') (wi + nts ext) prx) → S c.1 c.2.1 B' wi c.2.2) :
    ∀ m i c ext prx, 31 ≤ c.2.1 + m → prx ++ ext.map emi = c.2.2 → (∀ x ∈ ext, x ≠ 20 ∧ tvK lv ≤ tig x) → (i = 0 → ∀ x ∈ ext, tvL (lv + 1) ≤ tig x) → (lv = 2 → 0 < i → hRel (ext ++ B) = true) → sI9 (ext ++ B) (wi + nts ext) → c.2.1 ≤ 30 → c.1 ≤ n → prx.length + (ext ++ B).length + 1 ≤ 9 * c.2.1 → (sgn T n c.1 ≠ 0 → tig (sgn T n c.1) < tvL (lv + 1) ∨ (tig (sgn T n c.1) = 4 ∧ hRel (ext ++ B) = true)) →
      (∀ e, rcL T n lv f m i c = .inl e → Bd e) → (∀ z ext prx, rcL T n lv f m i c = .inr z → EX9 T n lv z.1 z.2.1 z.2.2 ext prx B wi → L z.1 z.2.1 (ext ++ B) (wi + nts ext) prx) → L c.1 c.2.1 (ext ++ B) (wi + nts ext) prx := by
  have tt := tvK_tvL lv
  intro m
  induction m with
  | zero => intro i c ext prx h1 _ _ _ _ _ h2; omega
  | succ m ih =>
    intro i c ext prx h31 hpr hext hext0 hrel hsI hu hc hlen hN kB kL
    have stop : rcL T n lv f (m + 1) i c = .inr c → (sgn T n c.1 ≠ 0 → tig (sgn T n c.1) < tvL lv ∨ (tig (sgn T n c.1) = 4 ∧ hRel (ext ++ B) = true)) → L c.1 c.2.1 (ext ++ B) (wi + nts ext) prx := fun h hn =>
      kL c ext prx h ⟨hpr, fun x hx => ⟨(hext x hx).1, Nat.le_trans tt.2.1 (hext x hx).2⟩, hsI, hu, hc, hlen, hn⟩
    have up : tig (sgn T n c.1) < tvL (lv + 1) → sgn T n c.1 ≠ 0 → tig (sgn T n c.1) ≠ tvK lv → tig (sgn T n c.1) < tvL lv := fun a b e => by
      have := tig_sgn _ (sgn_st b).1 (sgn_21 b).1
      unfold tvL tvK at *
      repeat' split at a
      all_goals (repeat' split at e)
      all_goals (repeat' split)
      all_goals omega
    by_cases h1 : oAt T n c.1 lv = -100
    · refine stop (by rw [rcL, if_pos h1]) (fun hn => (hN hn).imp (fun z => up z hn ?_) id)
      exact (oAt_s hlv).1 h1 hn
    · obtain ⟨s1, s2, s3⟩ := (oAt_s (T := T) (n := n) (p := c.1) hlv).2 h1
      by_cases h2 : lv = 2 ∧ 0 < i
      · refine stop (by rw [rcL, if_neg h1, if_pos h2]) (fun hn => Or.inr ⟨?_, hrel h2.1 h2.2⟩)
        rw [s2, h2.1]; rfl
      · have hst := sgn_st s1
        have h20 := sgn_21 s1
        have cl : clo (tig (sgn T n c.1)) (ext ++ B) (wi + nts ext) prx = (B, wi, c.2.2) := by
          rw [s2, clo_ext ext wi prx hext, hpr]
          refine clo_base (fun x B' q => ?_)
          subst q
          exact hB.imp id (fun z => by omega)
        refine hR.2.2.1 c.1 c.2.1 (ext ++ B) (wi + nts ext) prx hsI hu (by omega) s1 (fun z => ?_) ?_
        · have l2 : lv = 2 := by
            have z1 := z.1
            rw [s2] at z1
            unfold tvK at z1
            split at z1 <;> omega
          have i0 : i = 0 := Nat.eq_zero_of_not_pos (fun q => h2 ⟨l2, q⟩)
          subst l2
          rw [hRel_ext ext (fun x hx => ⟨(hext x hx).1, hext0 i0 x hx⟩)] at z
          exact hRel_base hB z.2
        · rw [cl]
          have hl2 : prx.length + (ext ++ B).length = c.2.2.length + B.length := by
            rw [← hpr, List.length_append, List.length_append, List.length_map]; omega
          refine hf (tE T n c.1, c.2) (sgn T n c.1 :: B) ⟨Or.inr (by rw [s2]; exact tt.2.2.2.1), fun x hx => ?_, ?_, hw, ?_, tE_le hc, hu, ?_, fun l3 z => ?_⟩ (fun e he => kB e ?_) (fun z ext2 prx2 hz hE => ?_)
          · rcases List.mem_cons.mp hx with q | q
            · rw [q]; exact hst.1
            · exact hBs x q
          · rw [nts_cons, if_neg h20.1]; exact hBn
          · show B.length + 1 ≤ _; omega
          · show c.2.2.length + (B.length + 1) ≤ 9 * c.2.1 + wi; omega
          · have zz := z.2
            rw [mNot, if_neg h20.2] at zz
            have := of_decide_eq_true zz
            rw [s2] at this
            unfold tvK at this
            split at this <;> omega
          · rw [rcL, if_neg h1, if_neg h2, he]; rfl
          · obtain ⟨e1, e2, e3, e4, e5, e6, e7⟩ := hE
            have mo := hm _ _ hz (tE_le hc)
            have m3 : c.2.1 < z.2.1 := mo.2.2.1
            have as : ext2 ++ sgn T n c.1 :: B = (ext2 ++ [sgn T n c.1]) ++ B := by simp
            have nn : nts (ext2 ++ [sgn T n c.1]) = nts ext2 := by
              rw [nts_app, nts_cons, if_neg h20.1]; rfl
            have EQ : rcL T n lv f (m + 1) i c = rcL T n lv f m (i + 1) (z.1, z.2.1, z.2.2 ++ [oAt T n c.1 lv]) := by rw [rcL, if_neg h1, if_neg h2, hz, pB_R]
            rw [as] at e3 e6 e7 ⊢
            rw [← nn] at e3 ⊢
            refine ih (i + 1) (z.1, z.2.1, z.2.2 ++ [oAt T n c.1 lv]) (ext2 ++ [sgn T n c.1]) prx2 (by show 31 ≤ z.2.1 + m; omega) ?_ (fun x hx => ?_) (fun q => absurd q (Nat.succ_ne_zero _)) (fun l2 _ => ?_) e3 e4 e5 e6 e7 (fun e he => kB e (EQ.trans he)) (fun z3 x3 p3 h3 => kL z3 x3 p3 (EQ.trans h3))
            · show prx2 ++ (ext2 ++ [sgn T n c.1]).map emi = z.2.2 ++ [oAt T n c.1 lv]
              rw [List.map_append, ← List.append_assoc, e1, ← s3]; rfl
            · rcases List.mem_append.mp hx with q | q
              · exact ⟨(e2 x q).1, Nat.le_trans tt.1 (e2 x q).2⟩
              · rw [List.mem_singleton.mp q]
                exact ⟨h20.2, Nat.le_of_eq s2.symm⟩
            · rw [← as]
              subst l2
              rw [hRel_ext ext2 (fun x hx => e2 x hx)]
              exact hRel_top s2 h20.2
end TIE
