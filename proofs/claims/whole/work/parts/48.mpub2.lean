/-! the reference's calls that change nothing: the rest -/
/-! days make nobody less firm -/
theorem aMq_up {h : aH} {s : aS} {a b : Nat} (i : Nat) : sF s i ≤ sF (aMq h s a b) i := by
  show sF s i ≤ (if _ then _ else if _ then _ else _ : Nat → Nat) i
  split
  · rename_i z
    by_cases e : i = a
    · subst e; rw [za_us]; omega
    · rw [za_un e]; exact Nat.le_refl _
  · split
    · rename_i z
      by_cases e : i = b
      · subst e; rw [za_us]; omega
      · rw [za_un e]; exact Nat.le_refl _
    · exact Nat.le_refl _
theorem aMs_up {h : aH} {s : aS} (i : Nat) : ∀ k, sF s i ≤ sF (aMs h k s).1 i
  | 0 => Nat.le_refl _
  | k + 1 => by
    have ih := aMs_up (h := h) (s := s) i k
    unfold aMs
    split
    · exact Nat.le_trans ih (aMq_up i)
    · exact ih
theorem aBs_F {h : aH} {ro : Nat → Nat} {s : aS} : ∀ k, sF (aBs h ro k s) = sF s
  | 0 => rfl
  | k + 1 => aBs_F k
theorem aDay_up {h : aH} {ro : Nat → Nat} {s : aS} (i : Nat) : sF s i ≤ sF (aDay h ro false s) i := by
  show sF s i ≤ sF (aBs h ro (aNb h) (aMs h (aNm h) s).1) i
  rw [aBs_F]
  exact aMs_up i _
theorem aSum_le2 {f f' : Nat → Nat} (h : ∀ i, f i ≤ f' i) : ∀ n, aSum f n ≤ aSum f' n
  | 0 => Nat.le_refl _
  | n + 1 => by
    have := aSum_le2 h n
    have := h n
    show aSum f n + f n ≤ aSum f' n + f' n
    omega
theorem aSum_same {f f' : Nat → Nat} (h : ∀ i, f i ≤ f' i) : ∀ n, aSum f' n = aSum f n ↔ ∀ i, i < n → f' i = f i
  | 0 => ⟨fun _ i hi => absurd hi (Nat.not_lt_zero _), fun _ => rfl⟩
  | n + 1 => by
    have ih := aSum_same h n
    have l := aSum_le2 h n
    have l2 := h n
    show aSum f' n + f' n = aSum f n + f n ↔ _
    constructor
    · intro e i hi
      by_cases z : i = n
      · subst z; omega
      · exact ih.mp (by omega) i (by omega)
    · intro e
      rw [ih.mpr (fun i hi => e i (by omega)), e n (by omega)]
theorem aMan_s (h : aH) (ro : Nat → Nat) (j i since : Nat) (s : aS) : aMan h ro (j + 1) i since s = if i - (if aSum (sF (aDay h ro false s)) (aNp h) = aSum (sF s) (aNp h) then since else i) = 7 then nI (if aSum (sF (aDay h ro false s)) (aNp h) = aSum (sF s) (aNp h) then since else i)
    else aMan h ro j (i + 1) (if aSum (sF (aDay h ro false s)) (aNp h) = aSum (sF s) (aNp h) then since else i) (aDay h ro false s) := rfl
/-! a rumour has come to all that it comes to behind as many steps as there are people -/
theorem aGo_in {h : aH} {B S : Nat} (a : Nat) : ∀ k, S.testBit a = true → (aGo h B S k).testBit a = true
  | 0, e => e
  | k + 1, e => by
    have ih := aGo_in (h := h) (B := B) a k e
    rw [aGo_s]
    split
    · rw [Nat.testBit_or, ih]; rfl
    · exact ih
theorem aGo_or {h : aH} {B S : Nat} (k : Nat) : S ||| aGo h B S k = aGo h B S k := by
  apply Nat.eq_of_testBit_eq
  intro i
  rw [Nat.testBit_or]
  cases hs : S.testBit i with
  | false => rfl
  | true => rw [aGo_in i k hs]; rfl
def rS (h : aH) (B S : Nat) : Nat → Nat
  | 0 => S
  | k + 1 => aGo h B (rS h B S k) (aNp h)
theorem pc_up : ∀ a, a < 64 → ∀ b, b < 64 → a ||| b = b → a ≠ b → aPc a < aPc b := by decide +kernel
theorem pc_np : ∀ n, n ≤ 6 → ∀ a, a < 64 → a < 2 ^ n → aPc a ≤ n := by decide +kernel
theorem aGo_np {h : aH} (hh : aWH h) (B : Nat) {S : Nat} (hS : S < 2 ^ aNp h) : ∀ k, aGo h B S k < 2 ^ aNp h
  | 0 => hS
  | k + 1 => by
    have ih := aGo_np hh B hS k
    rw [aGo_s]
    split
    · refine Nat.or_lt_two_pow ih ?_
      apply Nat.lt_pow_two_of_testBit
      intro i hi
      cases hb : (aFr h B k).testBit i with
      | false => rfl
      | true =>
        obtain ⟨j, hj, -, h2⟩ := (aFrK_bit B k i (aNm h)).mp hb
        obtain ⟨g1, g2, -⟩ := hh.2.2.2.2.2.2.2.2.1 j hj
        omega
    · exact ih
theorem rS_np {h : aH} (hh : aWH h) (B : Nat) {S : Nat} (hS : S < 2 ^ aNp h) : ∀ k, rS h B S k < 2 ^ aNp h
  | 0 => hS
  | k + 1 => aGo_np hh B (rS_np hh B hS k) _
theorem rS_grow {h : aH} (hh : aWH h) (B : Nat) {S : Nat} (hS : S < 2 ^ aNp h) (h1 : 1 ≤ aPc S) : ∀ k, rS h B S (k + 1) = rS h B S k ∨ k + 2 ≤ aPc (rS h B S (k + 1)) := by
  intro k
  have p6 : 2 ^ aNp h ≤ 64 := Nat.pow_le_pow_right (n := 2) (j := 6) (by decide) hh.1
  have up : ∀ k, rS h B S (k + 1) ≠ rS h B S k → aPc (rS h B S k) < aPc (rS h B S (k + 1)) := fun k e => pc_up (rS h B S k) (by have := rS_np hh B hS k; omega) (rS h B S (k + 1)) (by have := rS_np hh B hS (k + 1); omega) (aGo_or _) (fun z => e z.symm)
  induction k with
  | zero =>
    by_cases e : rS h B S (0 + 1) = rS h B S 0
    · exact Or.inl e
    · have u := up 0 e
      have : 1 ≤ aPc (rS h B S 0) := h1
      exact Or.inr (by omega)
  | succ k ih =>
    by_cases e : rS h B S (k + 1 + 1) = rS h B S (k + 1)
    · exact Or.inl e
    · have u := up (k + 1) e
      rcases ih with z | z
      · refine absurd ?_ e
        show aGo h B (rS h B S (k + 1)) (aNp h) = rS h B S (k + 1)
        rw [z]
        exact z
      · exact Or.inr (by omega)
theorem rS_end {h : aH} (hh : aWH h) (B : Nat) {S : Nat} (hS : S < 2 ^ aNp h) (h1 : 1 ≤ aPc S) (h0 : 0 < aNp h) : ∀ k, aNp h - 1 ≤ k → rS h B S k = rS h B S (aNp h - 1) := by
  have p6 : 2 ^ aNp h ≤ 64 := Nat.pow_le_pow_right (n := 2) (j := 6) (by decide) hh.1
  have st : rS h B S (aNp h - 1 + 1) = rS h B S (aNp h - 1) := by
    rcases rS_grow hh B hS h1 (aNp h - 1) with z | z
    · exact z
    · have := pc_np (aNp h) hh.1 (rS h B S (aNp h - 1 + 1)) (by have := rS_np hh B hS (aNp h - 1 + 1); omega) (rS_np hh B hS _)
      omega
  intro k hk
  induction k with
  | zero => rw [show aNp h - 1 = 0 by omega]
  | succ k ih =>
    by_cases e : aNp h - 1 = k + 1
    · rw [e]
    · show aGo h B (rS h B S k) (aNp h) = _
      rw [ih (by omega)]
      exact st
theorem aRu_no {h : aH} {B o S : Nat} : ∀ f n, (∀ k, k < f → (rS h B S (n + k)).testBit o = false) → aRu h B o f n (rS h B S n) = -1
  | 0, _, _ => rfl
  | f + 1, n, z => by
    unfold aRu
    rw [if_neg (by have := z 0 (by omega); rw [Nat.add_zero] at this; rw [this]; decide)]
    exact aRu_no f (n + 1) (fun k hk => by rw [show n + 1 + k = n + (k + 1) by omega]; exact z (k + 1) (by omega))
theorem aRu_yes {h : aH} {B o S : Nat} : ∀ f n k, k < f → (∀ j, j < k → (rS h B S (n + j)).testBit o = false) → (rS h B S (n + k)).testBit o = true → aRu h B o f n (rS h B S n) = nI (n + k)
  | 0, _, _, z, _, _ => absurd z (Nat.not_lt_zero _)
  | f + 1, n, k, hk, z, y => by
    unfold aRu
    cases k with
    | zero => rw [Nat.add_zero] at y; rw [if_pos y]; rfl
    | succ k =>
      rw [if_neg (by have := z 0 (by omega); rw [Nat.add_zero] at this; rw [this]; decide)]
      have := aRu_yes f (n + 1) k (by omega) (fun j hj => by rw [show n + 1 + j = n + (j + 1) by omega]; exact z (j + 1) (by omega)) (by rw [show n + 1 + k = n + (k + 1) by omega]; exact y)
      rw [show n + 1 + k = n + (k + 1) by omega] at this
      exact this
theorem aRu_6 {h : aH} (hh : aWH h) (B : Nat) {p o : Nat} (hp : p < aNp h) : aRu h B o (aNp h) 0 (2 ^ p) = aRu h B o 6 0 (2 ^ p) := by
  have np := hh.1
  have hS : 2 ^ p < 2 ^ aNp h := Nat.pow_lt_pow_right (by decide) hp
  have h1 : 1 ≤ aPc (2 ^ p) := by
    have : ∀ p, p < 6 → 1 ≤ aPc (2 ^ p) := by decide
    exact this p (by omega)
  by_cases ex : ∃ k, (rS h B (2 ^ p) k).testBit o = true
  · obtain ⟨k0, hk0⟩ := ex
    obtain ⟨k, -, y, z⟩ := least_of (P := fun k => (rS h B (2 ^ p) k).testBit o = true) k0 hk0
    have kn : k < aNp h := by
      rcases Nat.lt_or_ge k (aNp h) with q | q
      · exact q
      · have e := rS_end hh B hS h1 (by omega) k (by omega)
        have y : (rS h B (2 ^ p) k).testBit o = true := y
        rw [e] at y
        exact absurd y (z (aNp h - 1) (by omega))
    have z' : ∀ j, j < k → (rS h B (2 ^ p) (0 + j)).testBit o = false := fun j hj => by
      rw [Nat.zero_add]
      cases hb : (rS h B (2 ^ p) j).testBit o with
      | false => rfl
      | true => exact absurd hb (z j hj)
    have y' : (rS h B (2 ^ p) (0 + k)).testBit o = true := by rw [Nat.zero_add]; exact y
    exact (aRu_yes (aNp h) 0 k kn z' y').trans (aRu_yes 6 0 k (by omega) z' y').symm
  · have z' : ∀ j, (rS h B (2 ^ p) (0 + j)).testBit o = false := fun j => by
      rw [Nat.zero_add]
      cases hb : (rS h B (2 ^ p) j).testBit o with
      | false => rfl
      | true => exact absurd ⟨j, hb⟩ ex
    exact (aRu_no (aNp h) 0 (fun j _ => z' j)).trans (aRu_no 6 0 (fun j _ => z' j)).symm
theorem odds_ok : ∀ c, c ≤ 100 → ∀ n, n ≤ 4 → (c / Nat.gcd c 100) ^ n = c ^ n / Nat.gcd (c ^ n) (100 ^ n) ∧ (100 / Nat.gcd c 100) ^ n = 100 ^ n / Nat.gcd (c ^ n) (100 ^ n) := by decide +kernel
theorem pow4 : ∀ c, c ≤ 100 → ∀ n, n ≤ 4 → c ^ n ≤ 100000000 := by decide +kernel
section MP
variable {E : px_E} {d : Nat} {w : pw_W} {Q : Option Value → pw_W → Prop} {t : ct_T} {g : GG}
theorem tX10_pupil {x y : Int32} (hw : w.1 = cs t) (hg : WG g) (hR : RM g w) (k : ∀ w', RM g w' → agM w w' → Q (some (.int (fPupil g x y))) w') : px_Call E (d + 20) 0 0 mX10_pupil [.ref 61, .int x, .int y] w Q := by
  have np := hg.1.1
  have hd := hg.s.2
  unfold fPupil at k
  have no : ¬ (V 31 x ∧ z1 y) → px_W E mX10_pupil (d + 20) 0 0 19 [.null, .null, .null, .null, .null, .null, .null] [] w Q := fun q => bX10_pupil_19 hw (by have := k w hR agM.rf; rw [if_neg q] at this; exact this)
  refine eX10_pupil hw (fun a => no (fun q => a ((isI (n := 30) (by decide) x).mpr q.1))) (fun a b => ?_) (fun a b => no (fun q => b ((isI1 y).mpr q.2)))
  have va := (isI (n := 30) (by decide) x).mp a
  rw [if_pos ⟨va, (isI1 y).mp b⟩] at k
  obtain ⟨n, hn, rfl, en⟩ := V_of (by decide) va
  rw [en] at k
  have bo : ∀ i, i ≤ aNp (gH g) → ∀ q, aBst (fPup (gH g) (gS g) n) i = some q → q.1 < 2 ^ 31 ∧ q.2 < 2 ^ 31 := fun i hi => bst31 (by omega) (fun j _ v e => fPup_lt hg.1 hg.s.1 (by omega) e)
  have key : ∀ i, i ≤ aNp (gH g) → ∀ w2 b l, w2.1 = cs t → RM g w2 → ag [69, 70, 90] w w2 → MBs (aBst (fPup (gH g) (gS g) n) i) b l → px_W E mX10_pupil (d + 20) 0 0 31 [.ref 61, .int (nI n), .int y, .int b, .int l, .int (nI i), .null] [] w2 Q := by
    refine za_up _ _ (fun i hi ih => ?_)
    intro w2 b l hw2 R2 a2 B2
    refine bX10_pupil_31 hw2 (fun q u v => ?_) (fun q u v => ?_) (fun q u => ?_) (fun q => ?_) <;> rw [R2.1.1.1] at q
    · have : i = aNp (gH g) := by have := za_le (by omega) (by omega) q; omega
      subst this
      have kk := k w2 R2 (a2.m (by decide))
      rw [(B2.end (z := y) (bo _ hi)).1 u v] at kk
      exact bX10_pupil_118 hw2 kk
    · have : i = aNp (gH g) := by have := za_le (by omega) (by omega) q; omega
      subst this
      have kk := k w2 R2 (a2.m (by decide))
      rw [(B2.end (z := y) (bo _ hi)).2.1 u v] at kk
      exact bX10_pupil_118 hw2 kk
    · have : i = aNp (gH g) := by have := za_le (by omega) (by omega) q; omega
      subst this
      have kk := k w2 R2 (a2.m (by decide))
      rw [(B2.end (z := y) (bo _ hi)).2.2 u] at kk
      exact bX10_pupil_118 hw2 kk
    · have hlt : i < aNp (gH g) := za_nle (by omega) (by omega) q
      have g30 := (hg.s.1.1 i hlt).1
      refine bX10_pupil_40 hw2 i rfl (by omega) (fun z => ?_) (fun z => ?_) <;> rw [R2.2.1.2.1 i hlt] at z
      · have z : sF (gS g) i ≠ 30 := za_ne (b := 30) (by omega) (by omega) z
        refine RM.fill hw2 hg R2 (fun w3 hw3 R3 a3 S3 => ?_)
        refine bX10_pupil_59 hw3 i rfl (by omega) ?_
        rw [S3.2.1 i hlt, nI_1]
        have A4 : ag [69, 70, 90] w3 (pw_sI w3 90 i (nI (sF (gS g) i + 1))) := ag.sI (by decide)
        refine RM.hurt (s := sSetF (gS g) i (sF (gS g) i + 1)) (hI hw3) hg (R3.scr hg A4 (by decide)) (S3.setF (p := i) (by omega) rfl) (hg.s.1.setF (by omega)) (show sD (gS g) + n < 5000 by omega) (fun w5 hw5 R5 a5 => ?_)
        have A5 := a2.tr (a3.tr (A4.tr a5))
        have ef : fPup (gH g) (gS g) n i = some _ := if_pos (show sF (gS g) i < 30 by omega)
        have st := B2.step (k := i) (bo i hi) (fPup_lt hg.1 hg.s.1 (by omega) ef)
        rw [← aBst_so ef] at st
        refine bX10_pupil_75 hw5 (fun u => ?_) (fun u => ?_) <;> refine bX10_pupil_94 hw5 ?_ <;> rw [nI_1]
        · exact ih hlt w5 _ _ hw5 R5 A5 (st.1 u)
        · exact ih hlt w5 _ _ hw5 R5 A5 (st.2 u)
      · have z : sF (gS g) i = 30 := za_eq (b := 30) (by omega) (by omega) z
        refine bX10_pupil_94 hw2 ?_
        rw [nI_1]
        refine ih hlt w2 _ _ hw2 R2 a2 ?_
        rw [aBst_no (show fPup (gH g) (gS g) n i = none from if_neg (by omega))]
        exact B2
  exact key 0 (by omega) w _ _ hw hR ag.rf ⟨rfl, rfl⟩
theorem tX10_scourge {y : Int32} (hw : w.1 = cs t) (hg : WG g) (hR : RM g w) (k : ∀ w', RM g w' → agM w w' → Q (some (.int (fScourge g y))) w') : px_Call E (d + 20) 0 0 mX10_scourge [.ref 61, .int y] w Q := by
  have np := hg.1.1
  have hd := hg.s.2
  unfold fScourge at k
  refine eX10_scourge hw (fun a => ?_) (fun a => by have := k w hR agM.rf; rw [if_neg (fun q => a ((isI1 y).mpr q))] at this; exact this)
  rw [if_pos ((isI1 y).mp a)] at k
  have bo : ∀ i, i ≤ aNp (gH g) → ∀ q, aBst (fSco (gH g) (gS g)) i = some q → q.1 < 2 ^ 31 ∧ q.2 < 2 ^ 31 := fun i hi => bst31 (by omega) (fun j _ v e => fSco_lt hg.1 hg.s.1 (by omega) e)
  have key : ∀ i, i ≤ aNp (gH g) → ∀ w2 b l, w2.1 = cs t → RM g w2 → ag [69, 70, 90] w w2 → MBs (aBst (fSco (gH g) (gS g)) i) b l → px_W E mX10_scourge (d + 20) 0 0 20 [.ref 61, .int y, .int b, .int l, .int (nI i), .null] [] w2 Q := by
    refine za_up _ _ (fun i hi ih => ?_)
    intro w2 b l hw2 R2 a2 B2
    have fin : i = aNp (gH g) → ∀ v, fCh (aBst (fSco (gH g) (gS g)) i) y = v → px_W E mX10_scourge (d + 20) 0 0 95 [.null, .null, .null, .null, .null, .null] [.int v] w2 Q := by
      intro e v ev
      subst e
      have kk := k w2 R2 (a2.m (by decide))
      rw [ev] at kk
      exact bX10_scourge_95 hw2 kk
    have en := B2.end (z := y) (bo i hi)
    refine bX10_scourge_20 hw2 (fun q u v => ?_) (fun q u v => ?_) (fun q u => ?_) (fun q => ?_) <;> rw [R2.1.1.1] at q
    · exact fin (by have := za_le (by omega) (by omega) q; omega) _ (en.1 u v)
    · exact fin (by have := za_le (by omega) (by omega) q; omega) _ (en.2.1 u v)
    · exact fin (by have := za_le (by omega) (by omega) q; omega) _ (en.2.2 u)
    · have hlt : i < aNp (gH g) := za_nle (by omega) (by omega) q
      refine RM.fill hw2 hg R2 (fun w3 hw3 R3 a3 S3 => ?_)
      refine bX10_scourge_33 hw3 (tX10_meetingsOf hw3 R3.1 hg.1 (by omega) ?_)
      refine bX10_scourge_47 hw3 12 rfl (by decide) ?_
      rw [S3.2.2.1, za_or]
      have A4 : ag [69, 70, 90] w3 (pw_sI w3 90 12 (nI (sB (gS g) ||| aMok (gH g) i (aNm (gH g))))) := ag.sI (by decide)
      refine RM.hurt (n := 7) (s := sSetB (gS g) (sB (gS g) ||| aMok (gH g) i (aNm (gH g)))) (hI hw3) hg (R3.scr hg A4 (by decide)) (S3.setB np rfl) (hg.s.1.setB (Nat.or_lt_two_pow (n := 9) hg.s.1.2.1 (aMok_512 hg.1 i (Nat.le_refl _)))) (show sD (gS g) + 7 < 5000 by omega) (fun w5 hw5 R5 a5 => ?_)
      have A5 := a2.tr (a3.tr (A4.tr a5))
      have ef : fSco (gH g) (gS g) i = some _ := rfl
      have st := B2.step (k := i) (bo i hi) (fSco_lt hg.1 hg.s.1 (by omega) ef)
      rw [← aBst_so ef] at st
      refine bX10_scourge_55 hw5 (fun u => ?_) (fun u => ?_) <;> refine bX10_scourge_72 hw5 ?_ <;> rw [nI_1]
      · exact ih hlt w5 _ _ hw5 R5 A5 (st.1 u)
      · exact ih hlt w5 _ _ hw5 R5 A5 (st.2 u)
  exact key 0 (by omega) w _ _ hw hR ag.rf ⟨rfl, rfl⟩
theorem tX10_relief {x y : Int32} (hw : w.1 = cs t) (hg : WG g) (hR : RM g w) (k : ∀ w', RM g w' → agM w w' → Q (some (.int (fRelief g x y))) w') : px_Call E (d + 20) 0 0 mX10_relief [.ref 61, .int x, .int y] w Q := by
  have np := hg.1.1
  have nb := hg.1.2.2.1
  have hd := hg.s.2
  unfold fRelief at k
  have no : ¬ (V (aNb (gH g)) x ∧ z1 y) → px_W E mX10_relief (d + 20) 0 0 17 [.null, .null, .null, .null, .null, .null, .null] [] w Q := fun q => bX10_relief_17 hw (by have := k w hR agM.rf; rw [if_neg q] at this; exact this)
  refine eX10_relief hw (fun a => no (fun q => a ((hR.isB hg x).mpr q.1))) (fun a b => ?_) (fun a b => no (fun q => b ((isI1 y).mpr q.2)))
  have va := (hR.isB hg x).mp a
  rw [if_pos ⟨va, (isI1 y).mp b⟩] at k
  obtain ⟨n, hn, rfl, en⟩ := V_of (by omega) va
  rw [en] at k
  have bo : ∀ i, i ≤ aNp (gH g) → ∀ q, aBst (fRel (gH g) (gS g) n) i = some q → q.1 < 2 ^ 31 ∧ q.2 < 2 ^ 31 := fun i hi => bst31 (by omega) (fun j _ v e => fRel_lt hg.1 hg.s.1 (by omega) e)
  have key : ∀ i, i ≤ aNp (gH g) → ∀ w2 b l, w2.1 = cs t → RM g w2 → ag [69, 70, 90] w w2 → MBs (aBst (fRel (gH g) (gS g) n) i) b l → px_W E mX10_relief (d + 20) 0 0 29 [.ref 61, .int (nI n), .int y, .int b, .int l, .int (nI i), .null] [] w2 Q := by
    refine za_up _ _ (fun i hi ih => ?_)
    intro w2 b l hw2 R2 a2 B2
    have fin : i = aNp (gH g) → ∀ v, fCh (aBst (fRel (gH g) (gS g) n) i) y = v → px_W E mX10_relief (d + 20) 0 0 98 [.null, .null, .null, .null, .null, .null, .null] [.int v] w2 Q := by
      intro e v ev
      subst e
      have kk := k w2 R2 (a2.m (by decide))
      rw [ev] at kk
      exact bX10_relief_98 hw2 kk
    have en := B2.end (z := y) (bo i hi)
    refine bX10_relief_29 hw2 (fun q u v => ?_) (fun q u v => ?_) (fun q u => ?_) (fun q => ?_) <;> rw [R2.1.1.1] at q
    · exact fin (by have := za_le (by omega) (by omega) q; omega) _ (en.1 u v)
    · exact fin (by have := za_le (by omega) (by omega) q; omega) _ (en.2.1 u v)
    · exact fin (by have := za_le (by omega) (by omega) q; omega) _ (en.2.2 u)
    · have hlt : i < aNp (gH g) := za_nle (by omega) (by omega) q
      refine RM.fill hw2 hg R2 (fun w3 hw3 R3 a3 S3 => ?_)
      refine bX10_relief_42 hw3 (tX10_soothes hw3 R3.1 S3 hg.1 hg.s.1 hn hlt (fun w4 a4 S4 => ?_))
      have A4 : ag [69, 70, 90] w3 w4 := a4.mono (by simp)
      refine bX10_relief_49 (a4.1.trans hw3) (RM.hurt (n := 7) (s := aCl (gH g) (gS g) n i) (a4.1.trans hw3) hg (R3.scr hg A4 (by decide)) S4 (hg.s.1.cl n i) (show sD (gS g) + 7 < 5000 by omega) (fun w5 hw5 R5 a5 => ?_))
      have A5 := a2.tr (a3.tr (A4.tr a5))
      have ef : fRel (gH g) (gS g) n i = some _ := rfl
      have st := B2.step (k := i) (bo i hi) (fRel_lt hg.1 hg.s.1 (by omega) ef)
      rw [← aBst_so ef] at st
      refine bX10_relief_55 hw5 (fun u => ?_) (fun u => ?_) <;> refine bX10_relief_74 hw5 ?_ <;> rw [nI_1]
      · exact ih hlt w5 _ _ hw5 R5 A5 (st.1 u)
      · exact ih hlt w5 _ _ hw5 R5 A5 (st.2 u)
  exact key 0 (by omega) w _ _ hw hR ag.rf ⟨rfl, rfl⟩
theorem tX10_rumour {x y : Int32} (hw : w.1 = cs t) (hg : WG g) (hR : RM g w) (k : ∀ w', RM g w' → agM w w' → Q (some (.int (fRumour g x y))) w') : px_Call E (d + 20) 0 0 mX10_rumour [.ref 61, .int x, .int y] w Q := by
  have np := hg.1.1
  have kk := k w hR agM.rf
  unfold fRumour at kk
  have no : ¬ (V (aNp (gH g)) x ∧ V (aNp (gH g)) y) → px_W E mX10_rumour (d + 20) 0 0 16 [.null, .null, .null, .null, .null, .null, .null] [] w Q := fun q => bX10_rumour_16 hw (by rw [if_neg q] at kk; exact kk)
  refine eX10_rumour hw (fun a => no (fun q => a ((hR.isP hg x).mpr q.1))) (fun a b => ?_) (fun a b => no (fun q => b ((hR.isP hg y).mpr q.2)))
  have va := (hR.isP hg x).mp a
  have vb := (hR.isP hg y).mp b
  rw [if_pos ⟨va, vb⟩] at kk
  obtain ⟨p, hp, rfl, ep⟩ := V_of (by omega) va
  obtain ⟨o, ho, rfl, eo⟩ := V_of (by omega) vb
  rw [ep, eo, aRu_6 hg.1 _ hp] at kk
  rw [za_bit1 (by omega)]
  have key : ∀ i, i ≤ 6 → ∀ S, S < 64 → Q (some (.int (aRu (gH g) (sB (gS g)) o (6 - i) i S))) w → px_W E mX10_rumour (d + 20) 0 0 25 [.ref 61, .null, .int (nI o), .int (nI S), .int (nI i), .null, .null] [] w Q := by
    refine za_up 6 _ (fun i hi ih => ?_)
    intro S hS kk
    have eb := za_tb1 (n := S) (k := o) (by omega) (by omega)
    refine bX10_rumour_25 hw (fun q => ?_) (fun q z => ?_) (fun q z => ?_)
    · have : i = 6 := by have := za_le (a := 6) (by omega) (by omega) q; omega
      subst this
      exact kk
    · have hlt : i < 6 := za_nle (a := 6) (by omega) (by omega) q
      rw [show 6 - i = (6 - (i + 1)) + 1 by omega] at kk
      unfold aRu at kk
      rw [if_neg (fun y => z (eb.mpr y))] at kk
      have key2 : ∀ j, j ≤ aNp (gH g) → px_W E mX10_rumour (d + 20) 0 0 50 [.ref 61, .null, .int (nI o), .int (nI S), .int (nI i), .int (nI (aGo (gH g) (sB (gS g)) S j)), .int (nI j)] [] w Q := by
        refine za_up _ _ (fun j hj ih2 => ?_)
        have ebj := za_tb1 (n := S) (k := j) (by omega) (by omega)
        refine bX10_rumour_50 hw (fun q => ?_) (fun q y => ?_) (fun q y => ?_) <;> rw [hR.1.1.1] at q
        · have : j = aNp (gH g) := by have := za_le (by omega) (by omega) q; omega
          subst this
          rw [nI_1]
          exact ih hlt _ (aGo_lt hg.1 _ hS _) kk
        · have jl : j < aNp (gH g) := za_nle (by omega) (by omega) q
          have ih2 := ih2 jl
          rw [aGo_s, if_neg (fun x => y (ebj.mpr x))] at ih2
          refine bX10_rumour_81 hw ?_
          rw [nI_1, show (0 : Int32) = nI 0 from rfl, za_or, Nat.or_zero]
          exact ih2
        · have jl : j < aNp (gH g) := za_nle (by omega) (by omega) q
          have ih2 := ih2 jl
          rw [aGo_s, if_pos (ebj.mp y)] at ih2
          refine tX10_friendsOf hw hR.1 hR.2.1 hg.1 hg.s.1 (by omega) ?_
          refine bX10_rumour_77 hw (bX10_rumour_81 hw ?_)
          rw [nI_1, za_or]
          exact ih2
      exact key2 0 (Nat.zero_le _)
    · have hlt : i < 6 := za_nle (a := 6) (by omega) (by omega) q
      rw [show 6 - i = (6 - (i + 1)) + 1 by omega] at kk
      unfold aRu at kk
      rw [if_pos (eb.mp z)] at kk
      exact kk
  exact key 0 (Nat.zero_le _) _ (p6 hp np) kk
theorem tX10_manners (hw : w.1 = cs t) (hg : WG g) (hR : RM g w) (k : ∀ w', RM g w' → agM w w' → Q (some (.int (fManners g))) w') : px_Call E (d + 20) 0 0 mX10_manners [.ref 61] w Q := by
  have np := hg.1.1
  have hd := hg.s.2
  unfold fManners at k
  refine eX10_manners hw (RM.fill hw hg hR (fun w1 hw1 R1 a1 S1 => bX10_manners_4 hw1 ?_))
  have key : ∀ i, i ≤ 67 → ∀ w2 since, since ≤ i → w2.1 = cs t → RM g w2 → ag [69, 70, 90, 94] w w2 → RMS (gH g) (gD g false i) w2 90 → (∀ p, p < aNp (gH g) → pw_I w2 94 p = nI (sF (gD g false i) p)) → (aMan (gH g) (aRo (gH g)) 67 1 0 (gS g) = aMan (gH g) (aRo (gH g)) (67 - i) (i + 1) since (gD g false i)) → px_W E mX10_manners (d + 20) 0 0 36 [.ref 61, .int (nI since), .int (nI (i + 1)), .null] [] w2 Q := by
    refine za_up 67 _ (fun i hi ih => ?_)
    intro w2 since hsi hw2 R2 a2 S2 K2 e2
    obtain ⟨W2, D2⟩ := aWS.days (ro := aRo (gH g)) (fl := false) hg.1 hg.s.1 i (by omega)
    refine bX10_manners_36 hw2 (fun q => ?_) (fun q => ?_)
    · have : i = 67 := by have := za_lt (a := 67) (by omega) (by omega) q; omega
      subst this
      have kk := k w2 R2 (a2.m (by decide))
      rw [e2] at kk
      exact kk
    · have hlt : i < 67 := by have := za_nlt (a := 67) (by omega) (by omega) q; omega
      refine RM.day (fl := false) hw2 hg R2 S2 W2 (fun w3 hw3 R3 a3 S3 => bX10_manners_47 hw3 ?_)
      have W3 := W2.day (ro := aRo (gH g)) (fl := false) hg.1 (by omega)
      have K3 : ∀ p, p < aNp (gH g) → pw_I w3 94 p = nI (sF (gD g false i) p) := fun p hp => (a3.I (by decide) _).trans (K2 p hp)
      have same := aSum_same (f := sF (gD g false i)) (f' := sF (aDay (gH g) (aRo (gH g)) false (gD g false i))) (fun j => aDay_up j) (aNp (gH g))
      rw [show 67 - i = (67 - (i + 1)) + 1 by omega] at e2
      have e2 := e2.trans (aMan_s (gH g) (aRo (gH g)) (67 - (i + 1)) (i + 1) since (gD g false i))
      have key2 : ∀ j, j ≤ aNp (gH g) → ∀ w4 sn, ag [94] w3 w4 → (∀ p, p < j → pw_I w4 94 p = nI (sF (aDay (gH g) (aRo (gH g)) false (gD g false i)) p)) → (∀ p, j ≤ p → p < aNp (gH g) → pw_I w4 94 p = nI (sF (gD g false i) p)) → ((sn = since ∧ ∀ p, p < j → sF (aDay (gH g) (aRo (gH g)) false (gD g false i)) p = sF (gD g false i) p) ∨ (sn = i + 1 ∧ ¬ ∀ p, p < aNp (gH g) → sF (aDay (gH g) (aRo (gH g)) false (gD g false i)) p = sF (gD g false i) p)) → px_W E mX10_manners (d + 20) 0 0 50 [.ref 61, .int (nI sn), .int (nI (i + 1)), .int (nI j)] [] w4 Q := by
        refine za_up _ _ (fun j hj ih2 => ?_)
        intro w4 sn a4 F4 G4 c4
        have hw4 := a4.1.trans hw3
        have R4 := R3.scr hg a4 (by decide)
        have S4 := S3.ag a4 (by decide)
        have A4 : ag [69, 70, 90, 94] w w4 := a2.tr ((a3.mono (by simp)).tr (a4.mono (by simp)))
        have snl : sn ≤ i + 1 := by rcases c4 with ⟨z, -⟩ | ⟨z, -⟩ <;> omega
        have fin : j = aNp (gH g) → (if aSum (sF (aDay (gH g) (aRo (gH g)) false (gD g false i))) (aNp (gH g)) = aSum (sF (gD g false i)) (aNp (gH g)) then since else i + 1) = sn := by
          intro e
          subst e
          rcases c4 with ⟨z, y⟩ | ⟨z, y⟩
          · rw [if_pos (same.mpr y)]; exact z.symm
          · rw [if_neg (fun u => y (same.mp u))]; exact z.symm
        refine bX10_manners_50 hw4 (fun q z => ?_) (fun q z => ?_) (fun q => ?_) <;> rw [R4.1.1.1] at q
        · have ej : j = aNp (gH g) := by have := za_le (by omega) (by omega) q; omega
          have fin2 := fin ej
          subst ej
          rw [pk_sub snl] at z
          have z : i + 1 - sn ≠ 7 := za_ne (b := 7) (by omega) (by omega) z
          rw [fin2, if_neg z] at e2
          rw [nI_1]
          exact ih hlt w4 sn snl hw4 R4 A4 S4 F4 e2
        · have ej : j = aNp (gH g) := by have := za_le (by omega) (by omega) q; omega
          have fin2 := fin ej
          subst ej
          rw [pk_sub snl] at z
          have z : i + 1 - sn = 7 := za_eq (b := 7) (by omega) (by omega) z
          rw [fin2, if_pos z] at e2
          have kk := k w4 R4 (A4.m (by decide))
          rw [e2] at kk
          exact kk
        · have jl : j < aNp (gH g) := za_nle (by omega) (by omega) q
          have b1 := (W2.1 j jl).1
          have b2 := (W3.1 j jl).1
          have e90 : pw_I w4 90 j = nI (sF (aDay (gH g) (aRo (gH g)) false (gD g false i)) j) := S4.2.1 j jl
          have e94 := G4 j (Nat.le_refl _) jl
          have nxt : ∀ sn', ((sn' = since ∧ ∀ p, p < j + 1 → sF (aDay (gH g) (aRo (gH g)) false (gD g false i)) p = sF (gD g false i) p) ∨ (sn' = i + 1 ∧ ¬ ∀ p, p < aNp (gH g) → sF (aDay (gH g) (aRo (gH g)) false (gD g false i)) p = sF (gD g false i) p)) → px_W E mX10_manners (d + 20) 0 0 75 [.ref 61, .int (nI sn'), .int (nI (i + 1)), .int (nI j)] [] w4 Q := by
            intro sn' c'
            refine bX10_manners_75 hw4 j rfl (by omega) j rfl (by omega) ?_
            rw [e90, nI_1]
            refine ih2 jl _ sn' (a4.tr (ag.sI (by decide))) (fun p hp => ?_) (fun p h1 h2 => ?_) c'
            · by_cases ep : p = j
              · subst ep; exact pw_same
              · rw [pw_oth (fun _ z => ep z)]; exact F4 p (by omega)
            · rw [pw_oth (fun _ z => by omega)]; exact G4 p (by omega) h2
          refine bX10_manners_58 hw4 j rfl (by omega) j rfl (by omega) (fun z => ?_) (fun z => ?_) <;> rw [e90, e94] at z
          · have z : sF (aDay (gH g) (aRo (gH g)) false (gD g false i)) j = sF (gD g false i) j := za_eq (by have : sF (aDay (gH g) (aRo (gH g)) false (gD g false i)) j ≤ 30 := b2; omega) (by have : sF (gD g false i) j ≤ 30 := b1; omega) z
            refine nxt sn ?_
            rcases c4 with ⟨y1, y2⟩ | y
            · refine Or.inl ⟨y1, fun p hp => ?_⟩
              by_cases ep : p = j
              · subst ep; exact z
              · exact y2 p (by omega)
            · exact Or.inr y
          · have z : sF (aDay (gH g) (aRo (gH g)) false (gD g false i)) j ≠ sF (gD g false i) j := fun u => z (by rw [u])
            exact nxt (i + 1) (Or.inr ⟨rfl, fun u => z (u j jl)⟩)
      exact key2 0 (by omega) w3 since ag.rf (fun p hp => absurd hp (Nat.not_lt_zero _)) (fun p _ hp => K3 p hp) (Or.inl ⟨rfl, fun p hp => absurd hp (Nat.not_lt_zero _)⟩)
  have key0 : ∀ j, j ≤ aNp (gH g) → ∀ w2, ag [94] w1 w2 → (∀ p, p < j → pw_I w2 94 p = nI (sF (gS g) p)) → px_W E mX10_manners (d + 20) 0 0 6 [.ref 61, .int (nI j), .null, .null] [] w2 Q := by
    refine za_up _ _ (fun j hj ih => ?_)
    intro w2 a2 F2
    have hw2 := a2.1.trans hw1
    have R2 := R1.scr hg a2 (by decide)
    have S2 := S1.ag a2 (by decide)
    refine bX10_manners_6 hw2 (fun q => ?_) (fun q => ?_) <;> rw [R2.1.1.1] at q
    · have : j = aNp (gH g) := by have := za_le (by omega) (by omega) q; omega
      subst this
      exact key 0 (by omega) w2 0 (Nat.le_refl _) hw2 R2 ((a1.mono (by simp)).tr (a2.mono (by simp))) S2 F2 rfl
    · have jl : j < aNp (gH g) := za_nle (by omega) (by omega) q
      refine bX10_manners_14 hw2 j rfl (by omega) j rfl (by omega) ?_
      rw [S2.2.1 j jl, nI_1]
      refine ih jl _ (a2.tr (ag.sI (by decide))) (fun p hp => ?_)
      by_cases ep : p = j
      · subst ep; exact pw_same
      · rw [pw_oth (fun _ z => ep z)]; exact F2 p (by omega)
  exact key0 0 (by omega) w1 ag.rf (fun p hp => absurd hp (Nat.not_lt_zero _))
theorem tX10_sorest (hw : w.1 = cs t) (hg : WG g) (hR : RM g w) (k : ∀ w', RM g w' → agM w w' → Q (some (.int (fSorest g))) w') : px_Call E (d + 20) 0 0 mX10_sorest [.ref 61] w Q :=
  eX10_sorest hw (tX10_mostAt (o := 6) hw hR.1 hg.1 (by decide) (fun p hp => ⟨hR.2.1.1 p hp, by have := (hg.s.1.1 p hp).2; omega⟩) (bX10_sorest_6 hw (k w hR agM.rf)))
theorem tX10_firmest (hw : w.1 = cs t) (hg : WG g) (hR : RM g w) (k : ∀ w', RM g w' → agM w w' → Q (some (.int (fFirmest g))) w') : px_Call E (d + 20) 0 0 mX10_firmest [.ref 61] w Q :=
  eX10_firmest hw (tX10_mostAt (o := 0) hw hR.1 hg.1 (by decide) (fun p hp => ⟨by rw [Nat.zero_add]; exact hR.2.1.2.1 p hp, by have := (hg.s.1.1 p hp).1; omega⟩) (bX10_firmest_5 hw (k w hR agM.rf)))
theorem tX10_due (hw : w.1 = cs t) (hg : WG g) (hR : RM g w) (k : ∀ w', RM g w' → agM w w' → Q (some (.int (fDue g))) w') : px_Call E (d + 20) 0 0 mX10_due [.ref 61] w Q := by
  have nm := hg.1.2.1
  refine eX10_due hw (RM.fill hw hg hR (fun w1 hw1 R1 a1 S1 => bX10_due_4 hw1 ?_))
  have key : ∀ i, i ≤ aNm (gH g) → px_W E mX10_due (d + 20) 0 0 8 [.ref 61, .int (nI (aDuK (gH g) (gS g) i)), .int (nI i)] [] w1 Q := by
    refine za_up _ _ (fun i hi ih => ?_)
    refine bX10_due_8 hw1 (fun q => ?_) (fun q => ?_) <;> rw [R1.1.1.2.1] at q
    · have : i = aNm (gH g) := by have := za_le (by omega) (by omega) q; omega
      subst this
      exact k w1 R1 (a1.m (by decide))
    · have hlt : i < aNm (gH g) := za_nle (by omega) (by omega) q
      have ih := ih hlt
      rw [aDuK_s, ← nI_1] at ih
      refine tX10_takesPlace hw1 R1.1 S1 hg.1 hg.s.1 hlt (bX10_due_22 hw1 ?_)
      rw [truth_jb, shl_jb (by omega), za_or]
      by_cases z : aTp (gH g) (gS g) i
      · rw [if_pos z] at ih ⊢; exact ih
      · rw [if_neg z] at ih ⊢; rw [Nat.or_zero]; exact ih
  exact key 0 (Nat.zero_le _)
theorem tX10_friends {x : Int32} (hw : w.1 = cs t) (hg : WG g) (hR : RM g w) (k : ∀ w', RM g w' → agM w w' → Q (some (.int (fFriends g x))) w') : px_Call E (d + 20) 0 0 mX10_friends [.ref 61, .int x] w Q := by
  have np := hg.1.1
  have kk := k w hR agM.rf
  unfold fFriends at kk
  refine eX10_friends hw (fun a => ?_) (fun a => ?_)
  · rw [if_neg (fun q => a ((hR.isP hg x).mpr q))] at kk
    exact bX10_friends_17 hw kk
  · have va := (hR.isP hg x).mp a
    rw [if_pos va] at kk
    obtain ⟨p, hp, rfl, ep⟩ := V_of (by omega) va
    rw [ep] at kk
    exact tX10_friendsOf hw hR.1 hR.2.1 hg.1 hg.s.1 (by omega) (bX10_friends_13 hw (bX10_friends_17 hw kk))
theorem tX10_uncared (hw : w.1 = cs t) (hg : WG g) (hR : RM g w) (k : ∀ w', RM g w' → agM w w' → Q (some (.int (fUncared g))) w') : px_Call E (d + 20) 0 0 mX10_uncared [.ref 61] w Q := by
  have np := hg.1.1
  have nb := hg.1.2.2.1
  refine eX10_uncared hw ?_
  rw [hR.1.1.1, za_bit1 (by omega)]
  have key : ∀ b, b ≤ aNb (gH g) → px_W E mX10_uncared (d + 20) 0 0 11 [.ref 61, .int (uOut (gH g) b), .int (nI b), .null] [] w Q := by
    refine za_up _ _ (fun b hb ih => ?_)
    refine bX10_uncared_11 hw (fun q => ?_) (fun q => ?_) <;> rw [hR.1.1.2.2.1] at q
    · have : b = aNb (gH g) := by have := za_le (by omega) (by omega) q; omega
      subst this
      exact k w hR agM.rf
    · have hlt : b < aNb (gH g) := za_nle (by omega) (by omega) q
      obtain ⟨-, c4, c5⟩ := hg.1.2.2.2.2.2.2.2.2.2.1 b hlt
      have key2 : ∀ j, j ≤ aRs (gH g) b → px_W E mX10_uncared (d + 20) 0 0 21 [.ref 61, .int (uIn (gH g) b (uOut (gH g) b) j), .int (nI b), .int (nI j)] [] w Q := by
        refine za_up _ _ (fun j hj ih2 => ?_)
        refine bX10_uncared_21 hw b rfl (by omega) (fun z => ?_) (fun z => ?_) <;> rw [(hR.1.2.2.2.1 b hlt).2] at z
        · have : j = aRs (gH g) b := by have := za_le (by omega) (by omega) z; omega
          subst this
          rw [nI_1]
          exact ih hlt
        · have jl : j < aRs (gH g) b := za_nle (by omega) (by omega) z
          have rl := hg.1.2.2.2.2.2.2.2.2.2.2.1 b hlt j jl
          refine bX10_uncared_31 hw (6 * b + j) (by rw [show (6 : Int32) = nI 6 from rfl, pk_mul, nI_add]) (by omega) ?_
          rw [hR.2.2.1 b hlt j jl, za_bit1 (by omega), nI_1]
          exact ih2 jl
      exact key2 0 (Nat.zero_le _)
  exact key 0 (Nat.zero_le _)
theorem tX10_law {x : Int32} (hw : w.1 = cs t) (hg : WG g) (hR : RM g w) (k : ∀ w', RM g w' → agM w w' → Q (some (.int (fLaw g x))) w') : px_Call E (d + 20) 0 0 mX10_law [.ref 61, .int x] w Q := by
  have np := hg.1.1
  have hd := hg.s.2
  unfold fLaw at k
  refine eX10_law hw (fun a => ?_) (fun a => by have := k w hR agM.rf; rw [if_neg (fun q => a ((isI (n := 30) (by decide) x).mpr q))] at this; exact this)
  have va := (isI (n := 30) (by decide) x).mp a
  rw [if_pos va] at k
  obtain ⟨n, hn, rfl, en⟩ := V_of (by decide) va
  rw [en] at k
  refine RM.fill hw hg hR (fun w1 hw1 R1 a1 S1 => bX10_law_16 hw1 ?_)
  have key : ∀ p, p ≤ aNp (gH g) → ∀ w2, ag [90] w1 w2 → (∀ j, j < p → pw_I w2 90 j = nI n) → (∀ j, 6 ≤ j → pw_I w2 90 j = pw_I w1 90 j) → px_W E mX10_law (d + 20) 0 0 18 [.ref 61, .int (nI n), .int (nI p)] [] w2 Q := by
    refine za_up _ _ (fun p hp ih => ?_)
    intro w2 a2 F2 G2
    have hw2 := a2.1.trans hw1
    have R2 := R1.scr hg a2 (by decide)
    refine bX10_law_18 hw2 (fun q => ?_) (fun q => ?_) <;> rw [R2.1.1.1] at q
    · have : p = aNp (gH g) := by have := za_le (by omega) (by omega) q; omega
      subst this
      have S2 : RMS (gH g) (sAllF (gS g) n) w2 90 := ⟨fun j hj => (G2 _ (by omega)).trans (S1.1 j hj), fun j hj => F2 j hj, (G2 _ (by omega)).trans S1.2.2.1, (G2 _ (by omega)).trans S1.2.2.2.1, (G2 _ (by omega)).trans S1.2.2.2.2⟩
      refine RM.hurt (n := 7) hw2 hg R2 S2 (hg.s.1.allF (by omega)) (show sD (gS g) + 7 < 5000 by omega) (fun w3 hw3 R3 a3 => ?_)
      exact bX10_law_45 hw3 (k w3 R3 ((a1.tr ((a2.mono (by simp)).tr a3)).m (by decide)))
    · have pl : p < aNp (gH g) := za_nle (by omega) (by omega) q
      refine bX10_law_26 hw2 p rfl (by omega) ?_
      rw [nI_1]
      refine ih pl _ (a2.tr (ag.sI (by decide))) (fun j hj => ?_) (fun j hj => ?_)
      · by_cases ej : j = p
        · subst ej; exact pw_same
        · rw [pw_oth (fun _ z => ej z)]; exact F2 j (by omega)
      · rw [pw_oth (fun _ z => by omega)]; exact G2 j hj
  exact key 0 (by omega) w1 ag.rf (fun j hj => absurd hj (Nat.not_lt_zero _)) (fun _ _ => rfl)
theorem tX10_next {x : Int32} (hw : w.1 = cs t) (hg : WG g) (hR : RM g w) (k : ∀ w', RM g w' → agM w w' → Q (some (.int (fNext g x))) w') : px_Call E (d + 20) 0 0 mX10_next [.ref 61, .int x] w Q := by
  have nm := hg.1.2.1
  have hd := hg.s.2
  unfold fNext at k
  refine eX10_next hw (fun a => ?_) (fun a => by have := k w hR agM.rf; rw [if_neg (fun q => a ((hR.isM hg x).mpr q))] at this; exact this)
  have va := (hR.isM hg x).mp a
  rw [if_pos va] at k
  obtain ⟨m, hm, rfl, em⟩ := V_of (by omega) va
  rw [em] at k
  refine RM.fill hw hg hR (fun w1 hw1 R1 a1 S1 => bX10_next_14 hw1 ?_)
  have key : ∀ i, i ≤ 60 → ∀ w2, w2.1 = cs t → RM g w2 → ag [69, 70, 90] w w2 → RMS (gH g) (gD g false i) w2 90 → (aNx (gH g) (aRo (gH g)) m 60 1 (gS g) = aNx (gH g) (aRo (gH g)) m (60 - i) (i + 1) (gD g false i)) → px_W E mX10_next (d + 20) 0 0 16 [.ref 61, .int (nI m), .int (nI (i + 1))] [] w2 Q := by
    refine za_up 60 _ (fun i hi ih => ?_)
    intro w2 hw2 R2 a2 S2 e2
    obtain ⟨W2, D2⟩ := aWS.days (ro := aRo (gH g)) (fl := false) hg.1 hg.s.1 i (by omega)
    refine bX10_next_16 hw2 (fun q => ?_) (fun q => ?_)
    · have : i = 60 := by have := za_lt (a := 60) (by omega) (by omega) q; omega
      subst this
      have kk := k w2 R2 (a2.m (by decide))
      rw [e2] at kk
      exact kk
    · have hlt : i < 60 := by have := za_nlt (a := 60) (by omega) (by omega) q; omega
      refine RM.day (fl := false) hw2 hg R2 S2 W2 (fun w3 hw3 R3 a3 S3 => ?_)
      have mt := aMs_met (h := gH g) (s := gD g false i) (aNm (gH g))
      have m2 : 2 ^ aNm (gH g) ≤ 512 := Nat.pow_le_pow_right (n := 2) (j := 9) (by decide) nm
      have e : js_shr (nI (aMet (gH g) (gD g false i))) (nI m) &&& 1 = 1 ↔ _ := za_tb1 (by unfold aMet; omega) (by omega)
      rw [show 60 - i = (60 - (i + 1)) + 1 by omega] at e2
      refine bX10_next_27 hw3 (fun z => ?_) (fun z => ?_)
      · rw [nI_1]
        refine ih hlt w3 hw3 R3 (a2.tr a3) S3 ?_
        rw [e2]
        show (if _ then _ else _) = _
        rw [if_neg (fun y => z (e.mpr y))]
        rfl
      · have kk := k w3 R3 ((a2.tr a3).m (by decide))
        have e3 : aNx (gH g) (aRo (gH g)) m (60 - (i + 1) + 1) (i + 1) (gD g false i) = nI (i + 1) := by
          show (if _ then _ else _) = _
          rw [if_pos (e.mp z)]
        rw [e2, e3] at kk
        exact kk
  exact key 0 (by omega) w1 hw1 R1 a1 S1 rfl
theorem tX10_odds {x y : Int32} (hw : w.1 = cs t) (hg : WG g) (hR : RM g w) (k : ∀ w', RM g w' → agM w w' → Q (some (.int (fOdds g x y))) w') : px_Call E (d + 20) 0 0 mX10_odds [.ref 61, .int x, .int y] w Q := by
  have hfl := hg.1.2.2.2.2.1
  have kk := k w hR agM.rf
  unfold fOdds at kk
  have no : ¬ (V 5 x ∧ z1 y) → px_W E mX10_odds (d + 20) 0 0 18 [.null, .null, .null, .null, .null, .null] [] w Q := fun q => bX10_odds_18 hw (by rw [if_neg q] at kk; exact kk)
  refine eX10_odds hw (fun a => no (fun q => a ((isI (n := 4) (by decide) x).mpr q.1))) (fun a b => ?_) (fun a b => no (fun q => b ((isI1 y).mpr q.2)))
  have va := (isI (n := 4) (by decide) x).mp a
  rw [if_pos ⟨va, (isI1 y).mp b⟩] at kk
  obtain ⟨n, hn, rfl, en⟩ := V_of (by decide) va
  rw [en] at kk
  have ec : 100 - pw_I w 61 55 = nI (100 - aFl (gH g)) := by rw [hR.1.1.2.2.2.2.1]; exact pk_sub (a := 100) hfl
  rw [ec]
  generalize hc : 100 - aFl (gH g) = c at kk
  have cl : c ≤ 100 := by omega
  have p1 := pow4 c cl n (by omega)
  have p2 := pow4 100 (by decide) n (by omega)
  have p3 : 0 < 100 ^ n := Nat.pow_pos (by decide)
  have gp : 0 < Nat.gcd (c ^ n) (100 ^ n) := Nat.gcd_pos_of_pos_right _ p3
  have gl : Nat.gcd (c ^ n) (100 ^ n) ≤ 100 ^ n := Nat.gcd_le_right _ p3
  obtain ⟨o1, o2⟩ := odds_ok c cl n (by omega)
  refine tX10_power (by omega) (bX10_odds_31 hw ?_)
  refine tX10_power (b := 100) (by omega) (bX10_odds_38 hw (tX10_divisor (by omega) (by omega) ?_))
  unfold fOd at kk
  refine bX10_odds_46 hw (fun z => ?_) (fun z => ?_)
  · rw [if_neg z, o2] at kk
    refine bX10_odds_59 hw (nI_ne0 gp (by omega)) (bX10_odds_64 hw ?_)
    rw [pk_div (by omega) gp (by omega)]
    exact kk
  · rw [if_pos z, o1] at kk
    refine bX10_odds_52 hw (nI_ne0 gp (by omega)) (bX10_odds_64 hw ?_)
    rw [pk_div (by omega) gp (by omega)]
    exact kk
theorem tX10_lies {x : Int32} (hw : w.1 = cs t) (hg : WG g) (hR : RM g w) (k : ∀ w', RM g w' → agM w w' → Q (some (.int (fLies g x))) w') : px_Call E (d + 20) 0 0 mX10_lies [.ref 61, .int x] w Q := by
  have hF := hR.2.2.2.2.2.2.2.2
  have c6 := hg.2.2.2.2.1
  have kk := k w hR agM.rf
  unfold fLies at kk
  have vp : pX10_isIn x 0 (pw_I w 61 68 - 1) ↔ V (gC g) x := by
    rw [hF.2.2.2.2.2.1]
    exact V_pred (by omega)
  refine eX10_lies hw (fun a => ?_) (fun a => ?_)
  · rw [if_neg (fun q => a (vp.mpr q))] at kk
    exact bX10_lies_25 hw kk
  · have va := vp.mp a
    rw [if_pos va] at kk
    obtain ⟨p, hp, rfl, ep⟩ := V_of (by omega) va
    refine bX10_lies_14 hw p rfl (by omega) (bX10_lies_25 hw ?_)
    rw [ep, ← hR.2.2.2.2.2.2.1 p hp] at kk
    exact kk
theorem tX10_about {x : Int32} (hw : w.1 = cs t) (hR : RM g w) (k : ∀ w', RM g w' → agM w w' → Q (some (.int (fAbout g x))) w') : px_Call E (d + 20) 0 0 mX10_about [.ref 61, .int x] w Q := by
  have hF := hR.2.2.2.2.2.2.2.2
  have kk := k w hR agM.rf
  unfold fAbout at kk
  refine eX10_about hw (fun a0 => ?_) (fun a0 a1 => ?_) (fun a0 a1 a2 => ?_) (fun a0 a1 a2 a3 => ?_) (fun a0 a1 a2 a3 a4 => ?_) (fun a0 a1 a2 a3 a4 a5 => ?_) (fun a0 a1 a2 a3 a4 a5 a6 => ?_) (fun a0 a1 a2 a3 a4 a5 a6 a7 => ?_) (fun a0 a1 a2 a3 a4 a5 a6 a7 a8 => ?_) (fun a0 a1 a2 a3 a4 a5 a6 a7 a8 a9 => ?_) (fun a0 a1 a2 a3 a4 a5 a6 a7 a8 a9 a10 => ?_) (fun a0 a1 a2 a3 a4 a5 a6 a7 a8 a9 a10 a11 => ?_) (fun a0 a1 a2 a3 a4 a5 a6 a7 a8 a9 a10 a11 a12 => ?_) (fun a0 a1 a2 a3 a4 a5 a6 a7 a8 a9 a10 a11 a12 a13 => ?_) (fun a0 a1 a2 a3 a4 a5 a6 a7 a8 a9 a10 a11 a12 a13 a14 => ?_) (fun a0 a1 a2 a3 a4 a5 a6 a7 a8 a9 a10 a11 a12 a13 a14 => ?_)
  · rw [if_pos a0, ← hR.1.1.1] at kk; exact kk
  · rw [if_neg a0, if_pos a1, ← hR.1.1.2.1] at kk; exact kk
  · rw [if_neg a0, if_neg a1, if_pos a2, ← hR.1.1.2.2.1] at kk; exact kk
  · rw [if_neg a0, if_neg a1, if_neg a2, if_pos a3, ← hR.2.1.2.2.1] at kk; exact bX10_about_91 hw kk
  · rw [if_neg a0, if_neg a1, if_neg a2, if_neg a3, if_pos a4, ← hR.2.1.2.2.2.1] at kk; exact bX10_about_99 hw kk
  · rw [if_neg a0, if_neg a1, if_neg a2, if_neg a3, if_neg a4, if_pos a5, ← hR.2.1.2.2.2.2] at kk; exact bX10_about_107 hw kk
  · rw [if_neg a0, if_neg a1, if_neg a2, if_neg a3, if_neg a4, if_neg a5, if_pos a6, ← hF.2.2.2.1] at kk; exact kk
  · rw [if_neg a0, if_neg a1, if_neg a2, if_neg a3, if_neg a4, if_neg a5, if_neg a6, if_pos a7, ← hF.2.2.2.2.1] at kk; exact kk
  · rw [if_neg a0, if_neg a1, if_neg a2, if_neg a3, if_neg a4, if_neg a5, if_neg a6, if_neg a7, if_pos a8, ← hF.2.2.2.2.2.2.1] at kk; exact kk
  · rw [if_neg a0, if_neg a1, if_neg a2, if_neg a3, if_neg a4, if_neg a5, if_neg a6, if_neg a7, if_neg a8, if_pos a9, ← hF.2.2.2.2.2.2.2] at kk; exact kk
  · rw [if_neg a0, if_neg a1, if_neg a2, if_neg a3, if_neg a4, if_neg a5, if_neg a6, if_neg a7, if_neg a8, if_neg a9, if_pos a10, ← hF.1] at kk; exact kk
  · rw [if_neg a0, if_neg a1, if_neg a2, if_neg a3, if_neg a4, if_neg a5, if_neg a6, if_neg a7, if_neg a8, if_neg a9, if_neg a10, if_pos a11, ← hR.1.1.2.2.2.2.2.2] at kk; exact kk
  · rw [if_neg a0, if_neg a1, if_neg a2, if_neg a3, if_neg a4, if_neg a5, if_neg a6, if_neg a7, if_neg a8, if_neg a9, if_neg a10, if_neg a11, if_pos a12, ← hF.2.2.2.2.2.1] at kk; exact kk
  · rw [if_neg a0, if_neg a1, if_neg a2, if_neg a3, if_neg a4, if_neg a5, if_neg a6, if_neg a7, if_neg a8, if_neg a9, if_neg a10, if_neg a11, if_neg a12, if_pos a13, ← hR.1.1.2.2.2.1] at kk; exact kk
  · rw [if_neg a0, if_neg a1, if_neg a2, if_neg a3, if_neg a4, if_neg a5, if_neg a6, if_neg a7, if_neg a8, if_neg a9, if_neg a10, if_neg a11, if_neg a12, if_neg a13, if_pos a14, ← hR.1.1.2.2.2.2.1] at kk; exact kk
  · rw [if_neg a0, if_neg a1, if_neg a2, if_neg a3, if_neg a4, if_neg a5, if_neg a6, if_neg a7, if_neg a8, if_neg a9, if_neg a10, if_neg a11, if_neg a12, if_neg a13, if_neg a14] at kk; exact kk
end MP
