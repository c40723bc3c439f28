/-! the class's scanner -/
theorem bt_eq {c k : Nat} (hc : c < 256) (hk : k < 128) : js_i2b (nI c) = nI k ↔ c = k := by
  rcases Nat.lt_or_ge c 128 with q | q
  · rw [bt_lo c q]
    exact nI_eq (by omega) (by omega)
  · constructor
    · intro e
      have := bt_hi q hc
      rw [e] at this
      exact absurd this (nI_pos (by omega))
    · intro e; omega
theorem bt_lt {c k : Nat} (hc : c < 256) (hk : k < 128) : js_i2b (nI c) < nI k ↔ c < k ∨ 128 ≤ c := by
  rcases Nat.lt_or_ge c 128 with q | q
  · rw [bt_lo c q]
    constructor
    · intro h
      left
      rcases Nat.lt_or_ge c k with h2 | h2
      · exact h2
      · exact absurd h (nI_nlt h2 (by omega))
    · intro h
      exact nI_lt (by omega) (by omega)
  · constructor
    · intro _; exact Or.inr q
    · intro _
      exact Int32.lt_of_lt_of_le (bt_hi q hc) (nI_le (a := 0) (b := k) (by omega) (by omega))
theorem bt_gt {c k : Nat} (hc : c < 256) (hk : k < 128) : nI k < js_i2b (nI c) ↔ k < c ∧ c < 128 := by
  rcases Nat.lt_or_ge c 128 with q | q
  · rw [bt_lo c q]
    constructor
    · intro h
      refine ⟨?_, q⟩
      rcases Nat.lt_or_ge k c with h2 | h2
      · exact h2
      · exact absurd h (nI_nlt h2 (by omega))
    · intro h
      exact nI_lt h.1 (by omega)
  · constructor
    · intro h
      exact absurd (Int32.lt_trans h (bt_hi q hc)) (nI_pos (by omega))
    · intro h; omega
theorem sp_one' : ∀ c, c < 26 → ((nI (c + 97) - 97) + 1).toInt64 = Int64.ofNat (c + 1) := by decide +kernel
theorem sp27 {a c : Nat} (h1 : 97 ≤ c) (h2 : c ≤ 122) : hX6_spelledOn (Int64.ofNat a) (nI c) = Int64.ofNat (a * 27 + (c - 96)) := by
  have e := sp_one' (c - 97) (by omega)
  rw [show c - 97 + 97 = c by omega, show c - 97 + 1 = c - 96 by omega] at e
  unfold hX6_spelledOn
  rw [e, Int64.ofNat_add, Int64.ofNat_mul]
  rfl
theorem kw_self : ∀ j, j < 20 → kwS.idxOf (kwS.getD j []) = j := by decide +kernel
theorem kw_get {j : Nat} (h : j < 20) : kwS.getD j [] ∈ kwS := by
  rw [List.getD_eq_getElem?_getD, List.getElem?_eq_getElem (show j < kwS.length by rw [kwS_len]; exact h)]
  exact List.getElem_mem _
theorem kw_ix {l : List Nat} {j : Nat} (h : j < 20) : kwS.getD j [] = l ↔ kwS.idxOf l = j := by
  constructor
  · intro e; rw [← e]; exact kw_self j h
  · intro e
    have hm : l ∈ kwS := List.idxOf_lt_length_iff.mp (by rw [e, kwS_len]; exact h)
    obtain ⟨n, hn, e2⟩ := List.getElem_of_mem hm
    have e3 : kwS.getD n [] = l := by rw [List.getD_eq_getElem?_getD, List.getElem?_eq_getElem hn]; exact e2
    have e4 := kw_self n (by rw [← kwS_len]; exact hn)
    rw [e3, e] at e4
    rw [e4]; exact e3
theorem kw_mem {l : List Nat} : l ∈ kwS ↔ kwS.idxOf l < 20 := by rw [← kwS_len]; exact List.idxOf_lt_length_iff.symm
theorem kw_lwr {j : Nat} (h : j < 20) : lwr (kwS.getD j []) ∧ (kwS.getD j []).length ≤ 8 := ⟨(kwS_ok _ (kw_get h)).2, (kwS_ok _ (kw_get h)).1⟩
/-- the class's scanner holds the token at p -/
def XTk (T : Nat → Nat) (n p : Nat) (w : pw_W) : Prop := pw_I w 17 2 = nI n ∧ pw_I w 17 3 = nI (tE T n p) ∧ pw_I w 17 4 = nI (tC T n p) ∧ pw_I w 17 7 = nI (tQ T n p) ∧ pw_L w 17 6 = Int64.ofNat (e27 (tW T n p)) ∧ ((tC T n p = 2 ∨ tC T n p = 4 ∨ tC T n p = 5) → pw_I w 17 5 = nI (tV T n p))
theorem XTk.ag {T : Nat → Nat} {n p : Nat} {w w' : pw_W} {S : List Nat} (h : XTk T n p w) (ha : ag S w w') (h17 : 17 ∉ S) : XTk T n p w' := by
  unfold XTk
  rw [ha.I h17, ha.I h17, ha.I h17, ha.I h17, ha.I h17, ha.L h17]
  exact h
theorem pw_L_I {w : pw_W} {r k : Nat} {v : Int32} {a b : Nat} : pw_L (pw_sI w r k v) a b = pw_L w a b := rfl
theorem pw_I_L {w : pw_W} {r k : Nat} {v : Int64} {a b : Nat} : pw_I (pw_sL w r k v) a b = pw_I w a b := rfl
section XSC
variable {E : px_E} {d : Nat} {w w0 : pw_W} {Q : Option Value → pw_W → Prop} {t : ct_T} {T : Nat → Nat} {n p : Nat}
theorem tX6_words (hK : XK w0) (l : List Nat) (hl : lwr l) (hl8 : l.length ≤ 8) (k1 : l ∈ kwS → ∀ w', w'.1 = cs t → ag [17] w0 w' → (∀ b, b ≠ 4 → b ≠ 5 → pw_I w' 17 b = pw_I w0 17 b) → (∀ b, pw_L w' 17 b = pw_L w0 17 b) → pw_I w' 17 4 = 4 → pw_I w' 17 5 = nI (kwS.idxOf l) → Q none w') (k2 : l ∉ kwS → ∀ w', w'.1 = cs t → ag [17] w0 w' → (∀ b, b ≠ 4 → b ≠ 5 → pw_I w' 17 b = pw_I w0 17 b) → (∀ b, pw_L w' 17 b = pw_L w0 17 b) → pw_I w' 17 4 = 3 → Q none w') (h6 : pw_L w0 17 6 = Int64.ofNat (e27 l)) :
    ∀ (m x : Nat) (w : pw_W), x + m = 20 → w.1 = cs t → ag [17] w0 w → (∀ b, b ≠ 4 → b ≠ 5 → pw_I w 17 b = pw_I w0 17 b) → (∀ b, pw_L w 17 b = pw_L w0 17 b) → (kwS.idxOf l < x → pw_I w 17 4 = 4 ∧ pw_I w 17 5 = nI (kwS.idxOf l)) → (¬ kwS.idxOf l < x → pw_I w 17 4 = 3) → px_W E mX6_takeWord (d + 1) 0 0 27 [.ref 17, .int (nI x)] [] w Q := by
  intro m
  induction m with
  | zero =>
    intro x w e hw ha f1 f2 h1 h2
    have e : x = 20 := by omega
    subst e
    refine bX6_takeWord_27 hw (fun _ => ?_) (fun z => absurd (Int32.le_refl _) z)
    by_cases hm : l ∈ kwS
    · exact k1 hm w hw ha f1 f2 (h1 (kw_mem.mp hm)).1 (h1 (kw_mem.mp hm)).2
    · exact k2 hm w hw ha f1 f2 (h2 (fun z => hm (kw_mem.mpr z)))
  | succ m ih =>
    intro x w e hw ha f1 f2 h1 h2
    refine bX6_takeWord_27 hw (fun z => absurd z (nI_ge (a := x) (b := 20) (by omega) (by omega))) (fun _ => ?_)
    have hk := kw_lwr (j := x) (by omega)
    have hcmp : pw_L w 18 x = pw_L w 17 6 ↔ kwS.idxOf l = x := by
      rw [ha.L (by decide), hK x (by omega), f2, h6, n27 hk.1 hl hk.2 hl8]
      exact kw_ix (by omega)
    refine bX6_takeWord_33 hw x rfl (by omega) (fun z => ?_) (fun z => ?_)
    · have z : ¬ kwS.idxOf l = x := fun q => z (hcmp.mpr q)
      refine bX6_takeWord_57 hw ?_
      rw [← nI_succ]
      exact ih (x + 1) w (by omega) hw ha f1 f2 (fun q => h1 (by omega)) (fun q => h2 (by omega))
    · have z : kwS.idxOf l = x := hcmp.mp z
      refine bX6_takeWord_57 (hI (hI hw)) ?_
      rw [← nI_succ]
      refine ih (x + 1) _ (by omega) (hI (hI hw)) (ha.tr ((ag.sI (by decide)).tr (ag.sI (by decide)))) (fun b b1 b2 => ?_) (fun b => f2 b) (fun _ => ⟨?_, ?_⟩) (fun q => absurd (by omega) q)
      · rw [pw_oth (fun _ q => b2 q), pw_oth (fun _ q => b1 q)]; exact f1 b b1 b2
      · rw [pw_oth (by decide), pw_same]
      · rw [pw_same, z]
theorem xA1 (htx : t.2.2 = 2) (hT : ∀ i, i < n → T i < 256) (hn : n ≤ 1600) (hp : p ≤ n) (h0 : ∀ i, i < n → pw_I w0 2 i = js_i2b (nI (T i))) (k : ∀ w', w'.1 = cs t → ag [17] w0 w' → pw_I w' 17 2 = nI n → pw_I w' 17 3 = nI (tQ T n p) → px_W E mX6_advance (d + 2) 0 0 52 [.ref 17] [] w' Q) :
    ∀ (m q : Nat) (w : pw_W), q + m = n → p ≤ q → (∀ i, p ≤ i → i < q → cB T n i = true) → w.1 = cs t → ag [17] w0 w → pw_I w 17 2 = nI n → pw_I w 17 3 = nI q → px_W E mX6_advance (d + 2) 0 0 0 [.ref 17] [] w Q := by
  intro m
  induction m with
  | zero =>
    intro q w e hq hb hw ha h2 h3
    refine bX6_advance_0 hw htx (fun _ => ?_) (fun z => absurd (by rw [h2, h3]; exact nI_le (by omega) (by omega)) z)
    exact k w hw ha h2 (by rw [h3, tQ_of hp hq hb (cB_out q (by omega))])
  | succ m ih =>
    intro q w e hq hb hw ha h2 h3
    refine bX6_advance_0 hw htx (fun z => absurd z (by rw [h2, h3]; exact nI_ge (by omega) (by omega))) (fun _ => ?_)
    have hr : pw_I w 2 q = js_i2b (nI (T q)) := (ha.I (by decide) q).trans (h0 q (by omega))
    have t9 := hT q (by omega)
    have go : (T q = 32 ∨ T q = 10) → px_W E mX6_advance (d + 2) 0 0 39 [.ref 17] [] w Q := fun z => by
      refine bX6_advance_39 hw htx ?_
      refine ih (q + 1) _ (by omega) (by omega) (fun i i1 i2 => ?_) (hI hw) (ha.tr (ag.sI (by decide))) ?_ ?_
      · by_cases e2 : i = q
        · rw [e2]; exact decide_eq_true ⟨by omega, z⟩
        · exact hb i i1 (by omega)
      · rw [pw_oth (by decide)]; exact h2
      · rw [pw_same, h3, nI_succ]
    refine bX6_advance_11 hw htx q h3 (by omega) (fun z => ?_) (fun z => ?_)
    · rw [hr] at z
      exact go (Or.inl ((bt_eq (k := 32) t9 (by decide)).mp z))
    · rw [hr] at z
      have z1 : T q ≠ 32 := fun e => z ((bt_eq (k := 32) t9 (by decide)).mpr e)
      refine bX6_advance_25 hw htx q h3 (by omega) (fun z => ?_) (fun z => ?_)
      · rw [hr] at z
        have z2 : T q ≠ 10 := fun e => z ((bt_eq (k := 10) t9 (by decide)).mpr e)
        refine k w hw ha h2 ?_
        rw [h3, tQ_of hp hq hb (decide_eq_false (fun z3 => z3.2.elim z1 z2))]
      · rw [hr] at z
        exact go (Or.inr ((bt_eq (k := 10) t9 (by decide)).mp z))
theorem xA2 (htx : t.2.2 = 2) (hT : ∀ i, i < n → T i < 256) (hn : n ≤ 1600) (hp : p ≤ n) (h0 : ∀ i, i < n → pw_I w0 2 i = js_i2b (nI (T i))) (k : ∀ w', w'.1 = cs t → ag [17] w0 w' → pw_I w' 17 2 = nI n → pw_I w' 17 3 = nI (tL T n p) → pw_I w' 17 7 = nI (tQ T n p) → pw_L w' 17 6 = Int64.ofNat (e27 (tW T n p)) → px_W E mX6_advance (d + 2) 0 0 137 [.ref 17] [] w' Q) :
    ∀ (m q : Nat) (w : pw_W), q + m = n → tQ T n p ≤ q → (∀ i, tQ T n p ≤ i → i < q → cL T n i = true) → w.1 = cs t → ag [17] w0 w → pw_I w 17 2 = nI n → pw_I w 17 3 = nI q → pw_I w 17 7 = nI (tQ T n p) → pw_L w 17 6 = Int64.ofNat (e27 (lw T (tQ T n p) (q - tQ T n p))) → px_W E mX6_advance (d + 2) 0 0 65 [.ref 17] [] w Q := by
  intro m
  have fin : ∀ (q : Nat) (w : pw_W), tQ T n p ≤ q → (∀ i, tQ T n p ≤ i → i < q → cL T n i = true) → cL T n q = false → w.1 = cs t → ag [17] w0 w → pw_I w 17 2 = nI n → pw_I w 17 3 = nI q → pw_I w 17 7 = nI (tQ T n p) → pw_L w 17 6 = Int64.ofNat (e27 (lw T (tQ T n p) (q - tQ T n p))) → px_W E mX6_advance (d + 2) 0 0 137 [.ref 17] [] w Q := fun q w hq hb he hw ha h2 h3 h7 h6 => by
    have eq := tL_of hp hq hb he
    refine k w hw ha h2 (by rw [h3, eq]) h7 ?_
    rw [h6]
    unfold tW
    rw [eq]
  induction m with
  | zero =>
    intro q w e hq hb hw ha h2 h3 h7 h6
    refine bX6_advance_65 hw htx (fun _ => ?_) (fun z => absurd (by rw [h2, h3]; exact nI_le (by omega) (by omega)) z)
    exact fin q w hq hb (cL_out q (by omega)) hw ha h2 h3 h7 h6
  | succ m ih =>
    intro q w e hq hb hw ha h2 h3 h7 h6
    refine bX6_advance_65 hw htx (fun z => absurd z (by rw [h2, h3]; exact nI_ge (by omega) (by omega))) (fun _ => ?_)
    have hr : pw_I w 2 q = js_i2b (nI (T q)) := (ha.I (by decide) q).trans (h0 q (by omega))
    have t9 := hT q (by omega)
    refine bX6_advance_76 hw htx q h3 (by omega) (fun z => ?_) (fun z => ?_)
    · rw [hr] at z
      have z := (bt_lt (k := 97) t9 (by decide)).mp z
      exact fin q w hq hb (decide_eq_false (by omega)) hw ha h2 h3 h7 h6
    · rw [hr] at z
      have z1 : ¬ (T q < 97 ∨ 128 ≤ T q) := fun e => z ((bt_lt (k := 97) t9 (by decide)).mpr e)
      refine bX6_advance_90 hw htx q h3 (by omega) (fun z => ?_) (fun z => ?_)
      · rw [hr] at z
        have z := (bt_gt (k := 122) t9 (by decide)).mp z
        exact fin q w hq hb (decide_eq_false (by omega)) hw ha h2 h3 h7 h6
      · rw [hr] at z
        have z2 : ¬ (122 < T q ∧ T q < 128) := fun e => z ((bt_gt (k := 122) t9 (by decide)).mpr e)
        refine bX6_advance_104 hw htx q h3 (by omega) ?_
        refine ih (q + 1) _ (by omega) (by omega) (fun i i1 i2 => ?_) (hI (hL hw)) (ha.tr ((ag.sL (by decide)).tr (ag.sI (by decide)))) ?_ ?_ ?_ ?_
        · by_cases e2 : i = q
          · rw [e2]; exact decide_eq_true ⟨by omega, by omega, by omega⟩
          · exact hb i i1 (by omega)
        · rw [pw_oth (by decide)]; exact h2
        · rw [pw_same, h3, nI_succ]
        · rw [pw_oth (by decide)]; exact h7
        · rw [pw_L_I, pw_L_sL, if_pos ⟨rfl, rfl⟩, h6, hr, bt_lo _ (by omega), sp27 (by omega) (by omega), show q + 1 - tQ T n p = (q - tQ T n p) + 1 by omega, lw_succ, e27_snoc, show tQ T n p + (q - tQ T n p) = q by omega]
theorem nV_step {a c : Nat} (h : 48 ≤ c) : nI a * 10 + (nI c - 48) = nI (a * 10 + (c - 48)) := by
  have e1 : nI a * 10 = nI (a * 10) := pk_mul a 10
  have e2 : nI c - 48 = nI (c - 48) := pk_sub (b := 48) h
  rw [e1, e2]
  exact nI_add _ _
theorem xA3 (htx : t.2.2 = 2) (hT : ∀ i, i < n → T i < 256) (hn : n ≤ 1600) (hp : p ≤ n) (h0 : ∀ i, i < n → pw_I w0 2 i = js_i2b (nI (T i))) (l6 : Int64) (k : ∀ w', w'.1 = cs t → ag [17] w0 w' → pw_I w' 17 2 = nI n → pw_I w' 17 3 = nI (tD T n p) → pw_I w' 17 7 = nI (tQ T n p) → pw_L w' 17 6 = l6 → pw_I w' 17 5 = nI (nV T (tQ T n p) (tD T n p - tQ T n p)) → px_W E mX6_advance (d + 2) 0 0 234 [.ref 17] [] w' Q) :
    ∀ (m q : Nat) (w : pw_W), q + m = n → tQ T n p ≤ q → (∀ i, tQ T n p ≤ i → i < q → cD T n i = true) → w.1 = cs t → ag [17] w0 w → pw_I w 17 2 = nI n → pw_I w 17 3 = nI q → pw_I w 17 7 = nI (tQ T n p) → pw_L w 17 6 = l6 → pw_I w 17 5 = nI (nV T (tQ T n p) (q - tQ T n p)) → px_W E mX6_advance (d + 2) 0 0 158 [.ref 17] [] w Q := by
  intro m
  have fin : ∀ (q : Nat) (w : pw_W), tQ T n p ≤ q → (∀ i, tQ T n p ≤ i → i < q → cD T n i = true) → cD T n q = false → w.1 = cs t → ag [17] w0 w → pw_I w 17 2 = nI n → pw_I w 17 3 = nI q → pw_I w 17 7 = nI (tQ T n p) → pw_L w 17 6 = l6 → pw_I w 17 5 = nI (nV T (tQ T n p) (q - tQ T n p)) → px_W E mX6_advance (d + 2) 0 0 234 [.ref 17] [] w Q := fun q w hq hb he hw ha h2 h3 h7 h6 h5 => by
    have eq := tD_of hp hq hb he
    refine k w hw ha h2 (by rw [h3, eq]) h7 h6 ?_
    rw [h5, eq]
  induction m with
  | zero =>
    intro q w e hq hb hw ha h2 h3 h7 h6 h5
    refine bX6_advance_158 hw htx (fun _ => ?_) (fun z => absurd (by rw [h2, h3]; exact nI_le (by omega) (by omega)) z)
    exact fin q w hq hb (cD_out q (by omega)) hw ha h2 h3 h7 h6 h5
  | succ m ih =>
    intro q w e hq hb hw ha h2 h3 h7 h6 h5
    refine bX6_advance_158 hw htx (fun z => absurd z (by rw [h2, h3]; exact nI_ge (by omega) (by omega))) (fun _ => ?_)
    have hr : pw_I w 2 q = js_i2b (nI (T q)) := (ha.I (by decide) q).trans (h0 q (by omega))
    have t9 := hT q (by omega)
    refine bX6_advance_169 hw htx q h3 (by omega) (fun z => ?_) (fun z => ?_)
    · rw [hr] at z
      have z := (bt_lt (k := 48) t9 (by decide)).mp z
      exact fin q w hq hb (decide_eq_false (by omega)) hw ha h2 h3 h7 h6 h5
    · rw [hr] at z
      have z1 : ¬ (T q < 48 ∨ 128 ≤ T q) := fun e => z ((bt_lt (k := 48) t9 (by decide)).mpr e)
      refine bX6_advance_183 hw htx q h3 (by omega) (fun z => ?_) (fun z => ?_)
      · rw [hr] at z
        have z := (bt_gt (k := 57) t9 (by decide)).mp z
        exact fin q w hq hb (decide_eq_false (by omega)) hw ha h2 h3 h7 h6 h5
      · rw [hr] at z
        have z2 : ¬ (57 < T q ∧ T q < 128) := fun e => z ((bt_gt (k := 57) t9 (by decide)).mpr e)
        refine bX6_advance_197 hw htx q h3 (by omega) ?_
        refine ih (q + 1) _ (by omega) (by omega) (fun i i1 i2 => ?_) (hI (hI hw)) (ha.tr ((ag.sI (by decide)).tr (ag.sI (by decide)))) ?_ ?_ ?_ h6 ?_
        · by_cases e2 : i = q
          · rw [e2]; exact decide_eq_true ⟨by omega, by omega, by omega⟩
          · exact hb i i1 (by omega)
        · rw [pw_oth (by decide), pw_oth (by decide)]; exact h2
        · rw [pw_same, h3, nI_succ]
        · rw [pw_oth (by decide), pw_oth (by decide)]; exact h7
        · rw [pw_oth (by decide), pw_same, h5, hr, bt_lo _ (by omega), nV_step (by omega), show q + 1 - tQ T n p = (q - tQ T n p) + 1 by omega, nV, show tQ T n p + (q - tQ T n p) = q by omega]
end XSC
