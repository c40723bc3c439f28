section XFM
variable {E : px_E} {w w0 : pw_W} {Q : Option Value → pw_W → Prop} {t : ct_T} {T : Nat → Nat} {n p : Nat} {D : DS}
/-- readChain does as rc says -/
def xRc (E : px_E) (t : ct_T) (T : Nat → Nat) (n : Nat) (D : DS) (w0 : pw_W) (m : Nat) : Prop := ∀ (g lv wi : Nat) (c : FC) (w : pw_W) (Q : Option Value → pw_W → Prop), 2 * m + 8 ≤ g → lv ≤ 5 → wi ≤ 7 → (7 - wi) * 6 + (5 - lv) < m → c.2.2.length ≤ 9 * c.2.1 → c.2.1 ≤ 30 → XG t T n c.1 (dFm D c.2.1 c.2.2) w0 w →
    (∀ z, rc T n m lv wi c = .inr z → ∀ w', XG t T n z.1 (dFm D z.2.1 z.2.2) w0 w' → Q (some (.int 1)) w') → (∀ e, rc T n m lv wi c = .inl e → ∀ w', XBd t T n e w0 w' → Q (some (.int 0)) w') → px_Call E g 0 0 mX5_readChain [.ref 16, .int (nI lv), .int (nI wi)] w Q
theorem xRcL {m g lv wi : Nat} {R : PR FC} (hS : XS0 t T n w0) (ih : xRc E t T n D w0 m) (hg : 2 * m ≤ g) (hlv : lv ≤ 4) (hwi : wi ≤ 7) (hm : (7 - wi) * 6 + (5 - lv) < m + 1) (k1 : ∀ z, R = .inr z → ∀ w', XG t T n z.1 (dFm D z.2.1 z.2.2) w0 w' → Q (some (.int 1)) w') (k0 : ∀ e, R = .inl e → ∀ w', XBd t T n e w0 w' → Q (some (.int 0)) w') :
    ∀ (mm i : Nat) (c : FC) (w : pw_W), i + mm = 30 → c.2.2.length ≤ 9 * c.2.1 → c.2.1 ≤ 30 → XG t T n c.1 (dFm D c.2.1 c.2.2) w0 w → R = rcL T n lv (rc T n m (lv + 1) wi) mm i c → px_W E mX5_readChain (g + 10) 0 0 46 [.ref 16, .int (nI lv), .int (nI wi), .int 1, .int (nI i), .null] [] w Q := by
  have ht := hS.2.1
  intro mm
  induction mm with
  | zero =>
    intro i c w e hl hu hG hR
    rw [rcL] at hR
    have fin : px_W E mX5_readChain (g + 10) 0 0 117 [.null, .null, .null, .int 1, .null, .null] [] w Q := bX5_readChain_117 hG.1 ht (Or.inr rfl) (k1 c hR w hG)
    have h30 : (30 : Int32) ≤ nI i := nI_le (a := 30) (by omega) (by omega)
    exact bX5_readChain_46 hG.1 ht (fun z => absurd z (by decide)) (fun _ _ => fin) (fun _ z => absurd h30 z) (fun _ z => absurd h30 z) (fun _ z => absurd h30 z) (fun _ z => absurd h30 z)
  | succ mm ihm =>
    intro i c w e hl hu hG hR
    have hop := oAt_w hG.2.2.2.1 (lv := lv) (by omega)
    have n30 : ¬ (30 : Int32) ≤ nI i := nI_ge (b := 30) (by omega) (by decide)
    have l2 : nI lv = 2 ↔ lv = 2 := nI_eq (b := 2) (by omega) (by decide)
    rw [rcL] at hR
    have go : ¬ oAt T n c.1 lv = -100 → ¬ (lv = 2 ∧ 0 < i) → px_W E mX5_readChain (g + 10) 0 0 83 [.ref 16, .int (nI lv), .int (nI wi), .null, .int (nI i), .int (oAt T n c.1 lv)] [] w Q := fun h1 h2 => by
      rw [if_neg h1, if_neg h2] at hR
      refine bX5_readChain_83 hG.1 ht (tX5_adv hS hG (fun w1 g1 _ => bX5_readChain_90 g1.1 ht ?_))
      have el : nI lv + 1 = nI (lv + 1) := (nI_succ lv).symm
      rw [el]
      refine ih (g + 9) (lv + 1) wi (tE T n c.1, c.2) w1 _ (by omega) (by omega) hwi (by omega) hl hu g1 (fun z hz w2 g2 => ?_) (fun e he w2 b2 => ?_)
      · have mo := rc_mono (T := T) (n := n) _ _ _ _ _ hz hwi g1.2.2.1
        have m3 : c.2.1 < z.2.1 := mo.2.2.1
        have m5 : z.2.2.length + 1 + wi ≤ c.2.2.length + 9 * (z.2.1 - c.2.1) := mo.2.2.2.2
        have m4 := mo.2.2.2.1
        rw [hz, pB_R] at hR
        refine bX5_readChain_98 g2.1 ht (tX1_addG ht (by omega) g2 (fun w3 g3 => bX5_readChain_111 g3.1 ht ?_))
        rw [← nI_succ]
        refine ihm (i + 1) (z.1, z.2.1, z.2.2 ++ [oAt T n c.1 lv]) w3 (by omega) ?_ m4 g3 hR
        show (z.2.2 ++ [oAt T n c.1 lv]).length ≤ 9 * z.2.1
        rw [List.length_append]
        have : [oAt T n c.1 lv].length = 1 := rfl
        omega
      · rw [he, pB_L] at hR
        refine bX5_readChain_98 b2.1 ht (tX1_addB ht b2 (fun w3 b3 => bX5_readChain_111 b3.1 ht ?_))
        exact bX5_readChain_46 b3.1 ht (fun _ => bX5_readChain_117 b3.1 ht (Or.inl rfl) (k0 e hR w3 b3)) (fun z => absurd rfl z) (fun z => absurd rfl z) (fun z => absurd rfl z) (fun z => absurd rfl z) (fun z => absurd rfl z)
    refine bX5_readChain_46 hG.1 ht (fun z => absurd z (by decide)) (fun _ z => absurd z n30) (fun _ _ z => ?_) (fun _ _ z1 z2 => ?_) (fun _ _ z1 z2 z3 => ?_) (fun _ _ z1 z2 z3 => ?_)
    · rw [hop] at z
      rw [if_pos z] at hR
      exact bX5_readChain_81 hG.1 ht (k1 c hR w hG)
    · rw [hop] at z1 ⊢
      exact go z1 (fun h => z2 (l2.mpr h.1))
    · rw [hop] at z1 ⊢
      exact go z1 (fun h => absurd z3 (nI_ge (a := 0) h.2 (by omega)))
    · rw [hop] at z1
      have i0 : 0 < i := by
        rcases Nat.eq_zero_or_pos i with h | h
        · rw [h] at z3; exact absurd (Int32.le_refl _) z3
        · exact h
      rw [if_neg z1, if_pos ⟨l2.mp z2, i0⟩] at hR
      exact bX5_readChain_81 hG.1 ht (k1 c hR w hG)
theorem xRc_all (hS : XS0 t T n w0) : ∀ m, xRc E t T n D w0 m := by
  have ht := hS.2.1
  intro m
  induction m with
  | zero => intro g lv wi c w Q _ _ _ h; omega
  | succ m ih =>
    intro g lv wi c w Q hg hlv hwi hm hl hu hG k1 k0
    obtain ⟨g, rfl⟩ : ∃ g', g = g' + 10 := ⟨g - 10, by omega⟩
    have hlen : (aPr (dH (dFm D c.2.1 c.2.2))).length ≤ 270 := by show c.2.2.length ≤ 270; omega
    have kw : pX6_isKeyword w 14 ↔ tC T n c.1 = 4 ∧ tV T n c.1 = 14 := hG.2.2.2.1.kw (x := 14) rfl (by decide)
    have s40 : pX6_isSign w 40 ↔ tC T n c.1 = 5 ∧ tV T n c.1 = 40 := hG.2.2.2.1.sg (x := 40) rfl (by decide)
    rw [rc] at k1 k0
    have l2 : nI lv = 2 ↔ lv = 2 := nI_eq (b := 2) (by omega) (by decide)
    have ch : lv ≤ 4 → ¬ (lv = 2 ∧ tC T n c.1 = 4 ∧ tV T n c.1 = 14) → px_W E mX5_readChain (g + 10) 0 0 34 [.ref 16, .int (nI lv), .int (nI wi), .null, .null, .null] [] w Q := fun h1 h2 => by
      rw [if_neg (by omega : ¬ 4 < lv), if_neg h2] at k1 k0
      have el : nI lv + 1 = nI (lv + 1) := (nI_succ lv).symm
      refine bX5_readChain_34 hG.1 ht ?_
      rw [el]
      refine ih (g + 9) (lv + 1) wi c w _ (by omega) (by omega) hwi (by omega) hl hu hG (fun z hz w1 g1 => ?_) (fun e he w1 b1 => ?_)
      · have mo := rc_mono (T := T) (n := n) _ _ _ _ _ hz hwi hG.2.2.1
        have m3 := mo.2.2.1
        have m5 := mo.2.2.2.2
        rw [hz, pB_R] at k1 k0
        exact bX5_readChain_42 g1.1 ht (xRcL hS ih (by omega) h1 hwi (by omega) k1 k0 30 0 z w1 rfl (by omega) mo.2.2.2.1 g1 rfl)
      · rw [he, pB_L] at k0
        refine bX5_readChain_42 b1.1 ht ?_
        exact bX5_readChain_46 b1.1 ht (fun _ => bX5_readChain_117 b1.1 ht (Or.inl rfl) (k0 e rfl w1 b1)) (fun z => absurd rfl z) (fun z => absurd rfl z) (fun z => absurd rfl z) (fun z => absurd rfl z) (fun z => absurd rfl z)
    have le4 : nI lv ≤ 4 ↔ lv ≤ 4 := ⟨fun z => za_le (b := 4) (by omega) (by decide) z, fun z => nI_le (b := 4) z (by decide)⟩
    have ew : nI wi + 1 = nI (wi + 1) := (nI_succ wi).symm
    have lt7 : nI wi < 7 ↔ wi < 7 := ⟨fun z => za_lt (b := 7) (by omega) (by decide) z, fun z => nI_lt (b := 7) z (by decide)⟩
    refine eX5_readChain hG.1 ht (fun z1 z2 => ?_) (fun z1 z2 z3 => ?_) (fun z1 z2 z3 => ?_) (fun z1 => ?_)
    · exact ch (le4.mp z1) (fun h => z2 (l2.mpr h.1))
    · exact ch (le4.mp z1) (fun h => z3 (kw.mpr h.2))
    · have e2 := l2.mp z2
      rw [if_neg (by omega : ¬ 4 < lv), if_pos ⟨e2, kw.mp z3⟩] at k1 k0
      refine eX5_readNot hG.1 ht (fun z => ?_) (fun z => ?_) <;> rw [lt7] at z
      · rw [if_neg (by omega)] at k1 k0
        refine tX5_adv hS hG (fun w1 g1 _ => bX5_readNot_18 g1.1 ht ?_)
        rw [ew]
        refine ih (g + 8) 2 (wi + 1) (tE T n c.1, c.2) w1 _ (by omega) (by decide) (by omega) (by omega) hl hu g1 (fun z hz w2 g2 => ?_) (fun e he w2 b2 => ?_)
        · have mo := rc_mono (T := T) (n := n) _ _ _ _ _ hz (by omega) g1.2.2.1
          have m3 : c.2.1 < z.2.1 := mo.2.2.1
          have m4 := mo.2.2.2.1
          have m5 : z.2.2.length + 1 + (wi + 1) ≤ c.2.2.length + 9 * (z.2.1 - c.2.1) := mo.2.2.2.2
          rw [hz, pB_R] at k1
          refine bX5_readNot_26 g2.1 ht (tX1_addG ht (by omega) g2 (fun w3 g3 => bX5_readNot_39 g3.1 ht (Or.inr rfl) ?_))
          exact bX5_readChain_33 g3.1 ht (Or.inr rfl) (k1 _ rfl w3 g3)
        · rw [he, pB_L] at k0
          refine bX5_readNot_26 b2.1 ht (tX1_addB ht b2 (fun w3 b3 => bX5_readNot_39 b3.1 ht (Or.inl rfl) ?_))
          exact bX5_readChain_33 b3.1 ht (Or.inl rfl) (k0 _ rfl w3 b3)
      · rw [if_pos (by omega)] at k0
        refine tX5_refuseL hS hlen hG (fun w1 b1 _ => bX5_readNot_10 b1.1 ht (Or.inl rfl) ?_)
        exact bX5_readChain_33 b1.1 ht (Or.inl rfl) (k0 _ rfl w1 b1)
    · have g4 : 4 < lv := Nat.lt_of_not_le (fun h => z1 (le4.mpr h))
      rw [if_pos g4] at k1 k0
      have hu9 := fm_len hG
      have hun := uAt_w hG.2.2.2.1
      have u30 : (30 : Int32) ≤ pw_I w (t.2.1 + 10) 3 ↔ 30 ≤ c.2.1 := by
        rw [hu9.2.1]
        exact ⟨fun z => za_le (a := 30) (by decide) (by omega) z, fun z => nI_le (a := 30) z (by omega)⟩
      -- a refusal inside the unit
      have rf : (∀ w', XBd t T n (rfu T n c.1) w0 w' → Q (some (.int 0)) w') → px_W E mX5_readUnit (g + 9) 0 0 55 [.ref 16, .null, .null, .null] [] w (fun v w' => px_W E mX5_readChain (g + 10) 0 0 10 [.null, .null, .null, .null, .null, .null] (v.toList ++ []) w' Q) := fun kk =>
        bX5_readUnit_55 hG.1 ht (tX5_refuseL hS hlen hG (fun w1 b1 _ => bX5_readUnit_59 b1.1 ht (Or.inl rfl) (bX5_readChain_10 b1.1 ht (Or.inl rfl) (kk w1 b1))))
      -- one more unit
      have up : c.2.1 < 30 → XG t T n c.1 (dFm D (c.2.1 + 1) c.2.2) w0 (pw_sI w (t.2.1 + 10) 3 (pw_I w (t.2.1 + 10) 3 + 1)) := fun h => by
        refine hG.fm ht (ag.sI (by simp)) ?_ ?_ (fun i hi => ?_)
        · rw [pw_oth (by omega)]; exact hu9.1
        · rw [pw_same, hu9.2.1, ← nI_succ]
        · rw [pw_oth (by omega)]; exact hu9.2.2 i hi
      refine eX5_readUnit hG.1 ht (fun z => ?_) (fun z z2 => ?_) (fun z z2 => ?_)
      · have zb := s40.mp z
        rw [if_pos zb] at k1 k0
        rw [jb_t z]
        refine bX5_readUnit_30 hG.1 ht (fun y => ?_) (fun _ y => absurd y (by decide)) (fun y1 _ y2 => ?_) (fun _ _ y2 => ?_)
        · rw [u30] at y
          rw [if_pos (Or.inl y)] at k0
          exact rf (k0 _ rfl)
        · rw [u30] at y1
          rw [lt7] at y2
          rw [if_neg (by omega)] at k1 k0
          have gu := up (by omega)
          refine bX5_readUnit_60 hG.1 ht (tX5_adv hS gu (fun w1 g1 _ => bX5_readUnit_83 g1.1 ht (fun _ => ?_) (fun y => absurd y (by decide))))
          rw [ew]
          refine ih (g + 8) 0 (wi + 1) (tE T n c.1, c.2.1 + 1, c.2.2) w1 _ (by omega) (by decide) (by omega) (by omega) (by show c.2.2.length ≤ 9 * (c.2.1 + 1); omega) (by show c.2.1 + 1 ≤ 30; omega) g1 (fun z hz w2 g2 => ?_) (fun e he w2 b2 => ?_)
          · have mo := rc_mono (T := T) (n := n) _ _ _ _ _ hz (by omega) g1.2.2.1
            have m3 : c.2.1 + 1 < z.2.1 := mo.2.2.1
            have m4 := mo.2.2.2.1
            have m5 : z.2.2.length + 1 + (wi + 1) ≤ c.2.2.length + 9 * (z.2.1 - (c.2.1 + 1)) := mo.2.2.2.2
            rw [hz, pB_R] at k1 k0
            have s41 : pX6_isSign w2 41 ↔ tC T n z.1 = 5 ∧ tV T n z.1 = 41 := g2.2.2.2.1.sg (x := 41) rfl (by decide)
            refine bX5_readUnit_108 g2.1 ht (fun _ y => ?_) (fun _ y => ?_) (fun y => absurd y (by decide)) <;> rw [s41] at y
            · rw [if_pos y] at k1
              exact tX5_adv hS g2 (fun w3 g3 _ => bX5_readUnit_137 g3.1 ht (bX5_readChain_10 g3.1 ht (Or.inr rfl) (k1 _ rfl w3 g3)))
            · rw [if_neg y] at k0
              exact tX5_refuseL hS (by show z.2.2.length ≤ 270; omega) g2 (fun w3 b3 _ => bX5_readUnit_129 b3.1 ht (Or.inl rfl) (bX5_readChain_10 b3.1 ht (Or.inl rfl) (k0 _ rfl w3 b3)))
          · rw [he, pB_L] at k0
            exact bX5_readUnit_108 b2.1 ht (fun y => absurd rfl y) (fun y => absurd rfl y) (fun _ => bX5_readChain_10 b2.1 ht (Or.inl rfl) (k0 _ rfl w2 b2))
        · rw [lt7] at y2
          rw [if_pos (Or.inr (by omega))] at k0
          exact rf (k0 _ rfl)
      · have zb : ¬ (tC T n c.1 = 5 ∧ tV T n c.1 = 40) := fun h => z (s40.mpr h)
        rw [hun] at z2
        rw [if_neg zb, if_neg z2] at k1 k0
        rw [jb_f z, hun]
        refine bX5_readUnit_30 hG.1 ht (fun y => ?_) (fun y1 _ => ?_) (fun _ y => absurd rfl y) (fun _ y => absurd rfl y)
        · rw [u30] at y
          rw [if_pos y] at k0
          exact rf (k0 _ rfl)
        · rw [u30] at y1
          rw [if_neg y1] at k1
          have gu := up (by omega)
          refine bX5_readUnit_60 hG.1 ht (tX5_adv hS gu (fun w1 g1 _ => bX5_readUnit_83 g1.1 ht (fun y => absurd rfl y) (fun _ => ?_)))
          refine tX1_addG ht (by omega) g1 (fun w2 g2 => bX5_readUnit_98 g2.1 ht (bX5_readChain_10 g2.1 ht (Or.inr rfl) (k1 _ rfl w2 g2)))
      · have zb : ¬ (tC T n c.1 = 5 ∧ tV T n c.1 = 40) := fun h => z (s40.mpr h)
        rw [hun] at z2
        rw [if_neg zb, if_pos z2] at k0
        exact tX5_refuseL hS hlen hG (fun w1 b1 _ => bX5_readUnit_29 b1.1 ht (Or.inl rfl) (bX5_readChain_10 b1.1 ht (Or.inl rfl) (k0 _ rfl w1 b1)))
end XFM
