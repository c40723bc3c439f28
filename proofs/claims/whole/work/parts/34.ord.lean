/-! orders: in lists, and on the class's side -/
def lG (l : List Nat) (k : Nat) : Nat := l.getD k 0
def lSw (l : List Nat) (a b : Nat) : List Nat := (l.set a (lG l b)).set b (lG l a)
def lLow (l : List Nat) : Nat → Option Nat
  | 0 => none
  | k + 1 => if lG l (k + 1) < lG l k then lLow l k else some k
def lHi (l : List Nat) (c : Nat) : Nat → Nat
  | 0 => 0
  | j + 1 => if lG l (j + 1) < c then lHi l c j else j + 1
def lRv : Nat → List Nat → Nat → Nat → List Nat
  | 0, l, _, _ => l
  | f + 1, l, i, j => if i < j then lRv f (lSw l i j) (i + 1) (j - 1) else l
def lNx (l : List Nat) : Option (List Nat) := match lLow l (l.length - 1) with
  | none => none
  | some k => some (lRv 6 (lSw l k (lHi l (lG l k) (l.length - 1))) (k + 1) (l.length - 1))
def lEnd : Nat → List Nat → Bool
  | 0, _ => false
  | m + 1, l => match lNx l with
    | none => true
    | some l' => lEnd m l'
def lS2 : Nat → List Nat → Nat → Nat → List Nat
  | 0, l, _, _ => l
  | f + 1, l, i, j => lS2 f (if lG l j < lG l i then lSw l i j else l) i (j + 1)
def lS1 : Nat → List Nat → Nat → List Nat
  | 0, l, _ => l
  | f + 1, l, i => lS1 f (lS2 (l.length - (i + 1)) l i (i + 1)) (i + 1)
def lSK (l : List Nat) (k : Nat) : List Nat := (List.range k).filter (fun p => l.contains p)
def lB (c : Nat) (l : List Nat) : Prop := ∀ k, k < l.length → lG l k < c
theorem lG_at {l : List Nat} {k : Nat} (hk : k < l.length) : lG l k = l[k] := by
  unfold lG
  rw [List.getD_eq_getElem?_getD, List.getElem?_eq_getElem hk]
  rfl
theorem lSw_len (l : List Nat) (a b : Nat) : (lSw l a b).length = l.length := by
  unfold lSw
  rw [List.length_set, List.length_set]
theorem lSw_at {l : List Nat} {a b : Nat} (ha : a < l.length) (hb : b < l.length) (k : Nat) : lG (lSw l a b) k = if k = b then lG l a else if k = a then lG l b else lG l k := by
  show ((l.set a (lG l b)).set b (lG l a)).getD k 0 = _
  rw [List.getD_eq_getElem?_getD]
  by_cases h1 : k = b
  · subst h1
    rw [if_pos rfl, List.getElem?_set_self (by rw [List.length_set]; exact hb)]
    rfl
  · rw [if_neg h1, List.getElem?_set_ne (fun z => h1 z.symm)]
    by_cases h2 : k = a
    · subst h2
      rw [if_pos rfl, List.getElem?_set_self ha]
      rfl
    · rw [if_neg h2, List.getElem?_set_ne (fun z => h2 z.symm)]
      unfold lG
      rw [List.getD_eq_getElem?_getD]
theorem lSw_B {c : Nat} {l : List Nat} {a b : Nat} (h : lB c l) (ha : a < l.length) (hb : b < l.length) : lB c (lSw l a b) := by
  intro k hk
  rw [lSw_len] at hk
  rw [lSw_at ha hb]
  split
  · exact h a ha
  · split
    · exact h b hb
    · exact h k hk
theorem lLow_s (l : List Nat) (k : Nat) : lLow l (k + 1) = if lG l (k + 1) < lG l k then lLow l k else some k := rfl
theorem lHi_s (l : List Nat) (c j : Nat) : lHi l c (j + 1) = if lG l (j + 1) < c then lHi l c j else j + 1 := rfl
theorem lRv_s (f : Nat) (l : List Nat) (i j : Nat) : lRv (f + 1) l i j = if i < j then lRv f (lSw l i j) (i + 1) (j - 1) else l := rfl
theorem lS2_s (f : Nat) (l : List Nat) (i j : Nat) : lS2 (f + 1) l i j = lS2 f (if lG l j < lG l i then lSw l i j else l) i (j + 1) := rfl
theorem lS1_s (f : Nat) (l : List Nat) (i : Nat) : lS1 (f + 1) l i = lS1 f (lS2 (l.length - (i + 1)) l i (i + 1)) (i + 1) := rfl
theorem lNx_k {l : List Nat} {k j : Nat} (h1 : lLow l (l.length - 1) = some k) (h2 : lHi l (lG l k) (l.length - 1) = j) : lNx l = some (lRv 6 (lSw l k j) (k + 1) (l.length - 1)) := by
  subst h2
  unfold lNx
  rw [h1]
theorem lLow_lt {l : List Nat} : ∀ {m k : Nat}, lLow l m = some k → k < m ∧ lG l k ≤ lG l (k + 1)
  | 0, k, e => by cases e
  | m + 1, k, e => by
    unfold lLow at e
    by_cases h : lG l (m + 1) < lG l m
    · rw [if_pos h] at e
      have := lLow_lt e
      exact ⟨by omega, this.2⟩
    · rw [if_neg h] at e
      cases e
      exact ⟨by omega, by omega⟩
theorem lHi_le {l : List Nat} {c : Nat} : ∀ j, lHi l c j ≤ j
  | 0 => Nat.le_refl _
  | j + 1 => by
    unfold lHi
    split
    · have := lHi_le (l := l) (c := c) j
      omega
    · omega
theorem lRv_ok {c : Nat} : ∀ (f : Nat) (l : List Nat) (i j : Nat), j < l.length → (lRv f l i j).length = l.length ∧ (lB c l → lB c (lRv f l i j))
  | 0, l, i, j, _ => ⟨rfl, id⟩
  | f + 1, l, i, j, hj => by
    unfold lRv
    split
    · rename_i h
      have ih := lRv_ok (c := c) f (lSw l i j) (i + 1) (j - 1) (by rw [lSw_len]; omega)
      rw [lSw_len] at ih
      exact ⟨ih.1, fun hb => ih.2 (lSw_B hb (by omega) hj)⟩
    · exact ⟨rfl, id⟩
theorem lNx_ok {c : Nat} {l l' : List Nat} (e : lNx l = some l') : l'.length = l.length ∧ (lB c l → lB c l') := by
  unfold lNx at e
  cases hk : lLow l (l.length - 1) with
  | none => rw [hk] at e; cases e
  | some k =>
    rw [hk] at e
    have e := (Option.some.inj e).symm
    have k1 := (lLow_lt hk).1
    have h1 := lHi_le (l := l) (c := lG l k) (l.length - 1)
    have := lRv_ok (c := c) 6 (lSw l k (lHi l (lG l k) (l.length - 1))) (k + 1) (l.length - 1) (by rw [lSw_len]; omega)
    rw [lSw_len] at this
    rw [e]
    exact ⟨this.1, fun hb => this.2 (lSw_B hb (by omega) (by omega))⟩
/-- all rows of unlike numbers below six -/
def lInj : Nat → List (List Nat)
  | 0 => [[]]
  | n + 1 => (lInj n).flatMap (fun l => ((List.range 6).filter (fun a => !l.contains a)).map (fun a => a :: l))
theorem lInj_mem : ∀ l : List Nat, l.Nodup → (∀ x ∈ l, x < 6) → l ∈ lInj l.length
  | [], _, _ => by simp [lInj]
  | a :: l, hn, hb => by
    have ih := lInj_mem l (List.nodup_cons.mp hn).2 (fun x hx => hb x (List.mem_cons_of_mem _ hx))
    show a :: l ∈ lInj (l.length + 1)
    unfold lInj
    rw [List.mem_flatMap]
    refine ⟨l, ih, List.mem_map.mpr ⟨a, List.mem_filter.mpr ⟨List.mem_range.mpr (hb a List.mem_cons_self), ?_⟩, rfl⟩⟩
    have := (List.nodup_cons.mp hn).1
    simp [this]
theorem lSrt_inj : ∀ n, n ≤ 6 → ∀ l ∈ lInj n, lS1 l.length l 0 = lSK l 6 := by decide +kernel
theorem lEnd_all : ∀ b0 b1 b2 b3 b4 b5 : Bool, lEnd 720 ([0, 1, 2, 3, 4, 5].filter (fun p => [b0, b1, b2, b3, b4, b5].getD p false)) = true := by decide +kernel
theorem lEnd_SK (l : List Nat) : lEnd 720 (lSK l 6) = true := by
  have h := lEnd_all (l.contains 0) (l.contains 1) (l.contains 2) (l.contains 3) (l.contains 4) (l.contains 5)
  have e : lSK l 6 = [0, 1, 2, 3, 4, 5].filter (fun p => [l.contains 0, l.contains 1, l.contains 2, l.contains 3, l.contains 4, l.contains 5].getD p false) := by
    show [0, 1, 2, 3, 4, 5].filter (fun p => l.contains p) = _
    refine List.filter_congr (fun x hx => ?_)
    simp only [List.mem_cons, List.not_mem_nil, or_false] at hx
    rcases hx with rfl | rfl | rfl | rfl | rfl | rfl <;> rfl
  rw [e]
  exact h
/-- the best of the orders -/
def boK (f : List Nat → Nat) : Nat → List Nat → Nat × List Nat → Nat × List Nat
  | 0, _, q => q
  | m + 1, l, q => match lNx l with
    | none => if f l < q.1 then (f l, l) else q
    | some l' => boK f m l' (if f l < q.1 then (f l, l) else q)
theorem boK_no {f : List Nat → Nat} {m : Nat} {l : List Nat} {q : Nat × List Nat} (h : lNx l = none) : boK f (m + 1) l q = if f l < q.1 then (f l, l) else q := by
  show (match lNx l with | none => if f l < q.1 then (f l, l) else q | some l' => boK f m l' (if f l < q.1 then (f l, l) else q)) = _
  rw [h]
theorem boK_so {f : List Nat → Nat} {m : Nat} {l l' : List Nat} {q : Nat × List Nat} (h : lNx l = some l') : boK f (m + 1) l q = boK f m l' (if f l < q.1 then (f l, l) else q) := by
  show (match lNx l with | none => if f l < q.1 then (f l, l) else q | some l' => boK f m l' (if f l < q.1 then (f l, l) else q)) = _
  rw [h]
theorem boK_first {f : List Nat → Nat} {m : Nat} {l : List Nat} {q q' : Nat × List Nat} (h : f l < q.1) (h' : f l < q'.1) : boK f (m + 1) l q = boK f (m + 1) l q' := by
  cases hn : lNx l with
  | none => rw [boK_no hn, boK_no hn, if_pos h, if_pos h']
  | some l' => rw [boK_so hn, boK_so hn, if_pos h, if_pos h']
theorem boK_len {f : List Nat → Nat} {c : Nat} : ∀ (m : Nat) (l : List Nat) (q : Nat × List Nat), q.2.length = l.length → lB c q.2 → lB c l → (boK f m l q).2.length = l.length ∧ lB c (boK f m l q).2
  | 0, l, q, h, hb, _ => ⟨h, hb⟩
  | m + 1, l, q, h, hb, hl => by
    have h1 : (if f l < q.1 then (f l, l) else q).2.length = l.length ∧ lB c (if f l < q.1 then (f l, l) else q).2 := by
      split
      · exact ⟨rfl, hl⟩
      · exact ⟨h, hb⟩
    cases hn : lNx l with
    | none => rw [boK_no hn]; exact h1
    | some l' =>
      rw [boK_so hn]
      obtain ⟨e1, e2⟩ := lNx_ok (c := c) hn
      rw [← e1]
      exact boK_len m l' _ (by rw [e1]; exact h1.1) h1.2 (e2 hl)
def roB (h : aH) (b : Nat) (l : List Nat) : Nat → Nat := fun k => if 6 * b ≤ k ∧ k < 6 * b + l.length then lG l (k - 6 * b) else aRo h k
def roL (h : aH) (b : Nat) : List Nat := (List.range (aRs h b)).map (fun k => aRo h (6 * b + k))
def oHu (h : aH) (s : aS) (b n : Nat) (l : List Nat) : Nat := aHurt h (aDays h (roB h b l) false n s)
def aBO (h : aH) (s : aS) (b n : Nat) : Nat × List Nat := boK (oHu h s b n) 720 (lSK (roL h b) 6) (1000000, [])
theorem roL_len (h : aH) (b : Nat) : (roL h b).length = aRs h b := by simp [roL]
theorem roL_at {h : aH} {b k : Nat} (hk : k < aRs h b) : lG (roL h b) k = aRo h (6 * b + k) := by
  unfold lG roL
  rw [List.getD_eq_getElem?_getD, List.getElem?_map, List.getElem?_range hk]
  rfl
theorem roL_in {h : aH} {b : Nat} (hh : aWH h) (hb : b < aNb h) : roL h b ∈ lInj (aRs h b) := by
  have np := hh.1
  have := lInj_mem (roL h b) ?_ ?_
  · rw [roL_len] at this; exact this
  · unfold roL
    rw [List.nodup_iff_pairwise_ne, List.pairwise_map]
    refine (List.nodup_iff_pairwise_ne.mp List.nodup_range).imp_of_mem ?_
    intro i j hi hj hij e
    exact hij (hh.2.2.2.2.2.2.2.2.2.2.2.1 b hb i j (List.mem_range.mp hi) (List.mem_range.mp hj) e)
  · intro x hx
    obtain ⟨k, hk, rfl⟩ := List.mem_map.mp hx
    have := hh.2.2.2.2.2.2.2.2.2.2.1 b hb k (List.mem_range.mp hk)
    omega
theorem lSK_len : ∀ n, n ≤ 6 → ∀ l ∈ lInj n, (lSK l 6).length = n := by decide +kernel
theorem lSK_B {c : Nat} {l : List Nat} (h : ∀ x ∈ l, x < c) (k : Nat) : lB c (lSK l k) := by
  intro i hi
  have : lG (lSK l k) i ∈ lSK l k := by rw [lG_at hi]; exact List.getElem_mem hi
  have := (List.mem_filter.mp this).2
  exact h _ (by simpa using this)
theorem roL_B {h : aH} {b : Nat} (hh : aWH h) (hb : b < aNb h) : ∀ x ∈ roL h b, x < aNp h := by
  intro x hx
  obtain ⟨k, hk, rfl⟩ := List.mem_map.mp hx
  exact hh.2.2.2.2.2.2.2.2.2.2.1 b hb k (List.mem_range.mp hk)
theorem roB_W {h : aH} {b : Nat} {l : List Nat} (hh : aWH h) (hb : b < aNb h) (hl : l.length = aRs h b) (hB : lB (aNp h) l) : aWR h (roB h b l) := by
  intro b' hb' k hk
  have c5 := (hh.2.2.2.2.2.2.2.2.2.1 b hb).2.2
  have c6 := (hh.2.2.2.2.2.2.2.2.2.1 b' hb').2.2
  unfold roB
  split
  · rename_i z
    exact hB _ (by omega)
  · exact hh.ro b' hb' k hk
theorem oHu_lt {h : aH} {s : aS} {b n : Nat} {l : List Nat} (hh : aWH h) (hs : aWS h s) (hn : sD s + n < 5000) : oHu h s b n l < 1000 := by
  have := aHurt_le hh (aWS.days (ro := roB h b l) (fl := false) hh hs n hn).1
  unfold oHu
  omega
