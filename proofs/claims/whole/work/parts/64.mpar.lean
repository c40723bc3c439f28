/-! the reference's reading: its state, its small parts -/
abbrev pcM : List Nat := [63, 64, 65, 68, 71, 72, 73, 74, 75, 76, 77, 78, 79]
abbrev pfM : List Nat := [2, 3, 4, 5, 6, 7, 8, 9, 17, 19, 20, 22, 23, 24, 45, 46, 47, 48, 49, 50, 57, 58, 59, 69]
section MKT
variable {w : pw_W} {T : Nat → Nat} {n p : Nat}
theorem mS_1 : mS T n p = 1 ↔ tC T n p = 3 ∨ tC T n p = 4 := by
  unfold mS
  rcases tk_cases (T := T) (n := n) (p := p) with h | h | h | h | h | h
  · rw [h]; exact ⟨fun z => absurd (show (0 : Int32) = 1 from z) (by decide), fun z => by omega⟩
  · rw [h]; exact ⟨fun z => absurd (show (3 : Int32) = 1 from z) (by decide), fun z => by omega⟩
  · rw [h.1]; exact ⟨fun z => absurd (show (2 : Int32) = 1 from z) (by decide), fun z => by omega⟩
  · rw [h.1]; exact ⟨fun z => Or.inl rfl, fun z => rfl⟩
  · rw [h.1]; exact ⟨fun z => Or.inr rfl, fun z => rfl⟩
  · have l := sg_lt _ h.2
    rw [h.1]
    refine ⟨fun z => ?_, fun z => by omega⟩
    have z : nI (tV T n p) = 1 := z
    have := za_eq (b := 1) (by omega) (by decide) z
    rw [this] at h
    exact absurd h.2 (by decide)
theorem mS_2 : mS T n p = 2 ↔ tC T n p = 2 := by
  unfold mS
  rcases tk_cases (T := T) (n := n) (p := p) with h | h | h | h | h | h
  · rw [h]; exact ⟨fun z => absurd (show (0 : Int32) = 2 from z) (by decide), fun z => by omega⟩
  · rw [h]; exact ⟨fun z => absurd (show (3 : Int32) = 2 from z) (by decide), fun z => by omega⟩
  · rw [h.1]; exact ⟨fun z => rfl, fun z => rfl⟩
  · rw [h.1]; exact ⟨fun z => absurd (show (1 : Int32) = 2 from z) (by decide), fun z => by omega⟩
  · rw [h.1]; exact ⟨fun z => absurd (show (1 : Int32) = 2 from z) (by decide), fun z => by omega⟩
  · have l := sg_lt _ h.2
    rw [h.1]
    refine ⟨fun z => ?_, fun z => by omega⟩
    have z : nI (tV T n p) = 2 := z
    have := za_eq (b := 2) (by omega) (by decide) z
    rw [this] at h
    exact absurd h.2 (by decide)
theorem mS_0 : mS T n p = 0 ↔ tC T n p = 0 := by
  unfold mS
  rcases tk_cases (T := T) (n := n) (p := p) with h | h | h | h | h | h
  · rw [h]; exact ⟨fun z => rfl, fun z => rfl⟩
  · rw [h]; exact ⟨fun z => absurd (show (3 : Int32) = 0 from z) (by decide), fun z => by omega⟩
  · rw [h.1]; exact ⟨fun z => absurd (show (2 : Int32) = 0 from z) (by decide), fun z => by omega⟩
  · rw [h.1]; exact ⟨fun z => absurd (show (1 : Int32) = 0 from z) (by decide), fun z => by omega⟩
  · rw [h.1]; exact ⟨fun z => absurd (show (1 : Int32) = 0 from z) (by decide), fun z => by omega⟩
  · have l := sg_lt _ h.2
    rw [h.1]
    refine ⟨fun z => ?_, fun z => by omega⟩
    have z : nI (tV T n p) = 0 := z
    have := za_eq (b := 0) (by omega) (by decide) z
    rw [this] at h
    exact absurd h.2 (by decide)
theorem mS_5 {x : Nat} (hx : x ∈ sgS) : mS T n p = nI x ↔ tC T n p = 5 ∧ tV T n p = x := by
  have lx := sg_lt _ hx
  have l2 : ∀ k : Nat, k < 4 → ¬ nI k = nI x := fun k hk z => by
    have := za_eq (by omega) (by omega) z
    rw [← this] at hx
    revert hx
    rcases k with _ | _ | _ | _ | k
    · decide
    · decide
    · decide
    · decide
    · omega
  unfold mS
  rcases tk_cases (T := T) (n := n) (p := p) with h | h | h | h | h | h
  · rw [h]; exact ⟨fun z => absurd z (l2 0 (by decide)), fun z => by omega⟩
  · rw [h]; exact ⟨fun z => absurd z (l2 3 (by decide)), fun z => by omega⟩
  · rw [h.1]; exact ⟨fun z => absurd z (l2 2 (by decide)), fun z => by omega⟩
  · rw [h.1]; exact ⟨fun z => absurd z (l2 1 (by decide)), fun z => by omega⟩
  · rw [h.1]; exact ⟨fun z => absurd z (l2 1 (by decide)), fun z => by omega⟩
  · have l := sg_lt _ h.2
    rw [h.1]
    exact ⟨fun z => ⟨rfl, za_eq (by omega) (by omega) z⟩, fun z => by show nI (tV T n p) = nI x; rw [z.2]⟩
theorem MTk.kw (h : MTk T n p w) {x : Nat} {v : Int64} (hv : v = Int64.ofNat (e256 (kwS.getD x []))) (hx : x < 20) : pX10_isWord w v ↔ tC T n p = 4 ∧ tV T n p = x := by
  subst hv
  have hk := kw_lwr hx
  unfold pX10_isWord
  rw [h.2.2.1, mS_1]
  constructor
  · rintro ⟨h1, h2⟩
    rw [h.2.2.2.2.2 h1] at h2
    have l8 : (tW T n p).length ≤ 8 := h1.elim (fun z => (tC_3 z).2) (fun z => (tC_4 z).2.1)
    have e := (n256 tW_lwr hk.1 l8 hk.2).mp h2
    rcases h1 with h1 | h1
    · exact absurd (by rw [e]; exact kw_get hx) (tC_3 h1).1
    · exact ⟨h1, by rw [(tC_4 h1).2.2]; exact (kw_ix hx).mp e.symm⟩
  · rintro ⟨h1, h2⟩
    refine ⟨Or.inr h1, ?_⟩
    rw [h.2.2.2.2.2 (Or.inr h1)]
    rw [(tC_4 h1).2.2] at h2
    rw [(kw_ix hx).mpr h2]
theorem own_iff : pX10_isOwn w ↔ ∃ j, j < 20 ∧ pw_L w 61 9 = Int64.ofNat (e256 (kwS.getD j [])) := by
  unfold pX10_isOwn
  constructor
  · rintro (h | h | h | h | h | h | h | h | h | h | h | h | h | h | h | h | h | h | h | h)
    · exact ⟨0, by decide, h⟩
    · exact ⟨1, by decide, h⟩
    · exact ⟨2, by decide, h⟩
    · exact ⟨3, by decide, h⟩
    · exact ⟨4, by decide, h⟩
    · exact ⟨5, by decide, h⟩
    · exact ⟨6, by decide, h⟩
    · exact ⟨7, by decide, h⟩
    · exact ⟨8, by decide, h⟩
    · exact ⟨9, by decide, h⟩
    · exact ⟨10, by decide, h⟩
    · exact ⟨11, by decide, h⟩
    · exact ⟨15, by decide, h⟩
    · exact ⟨16, by decide, h⟩
    · exact ⟨17, by decide, h⟩
    · exact ⟨18, by decide, h⟩
    · exact ⟨19, by decide, h⟩
    · exact ⟨13, by decide, h⟩
    · exact ⟨12, by decide, h⟩
    · exact ⟨14, by decide, h⟩
  · rintro ⟨j, hj, h⟩
    have big : ∀ j, j < 20 → ∀ x : Int64, x = Int64.ofNat (e256 (kwS.getD j [])) → x = 123581014175598 ∨ x = 1718186605 ∨ x = 119182682386035 ∨ x = 465826574451 ∨ x = 1835361652 ∨ x = 28526 ∨ x = 27710370737579378 ∨ x = 427071335539 ∨ x = 491496238692 ∨ x = 6448484 ∨ x = 112615677388147 ∨ x = 1685217655 ∨ x = 7305070 ∨ x = 478694368626 ∨ x = 1936683621 ∨ x = 6578553 ∨ x = 2003133803 ∨ x = 6385252 ∨ x = 28530 ∨ x = 7237492 := by
      intro j hj x hx
      have := (by decide +kernel : ∀ j, j < 20 → (Int64.ofNat (e256 (kwS.getD j [])) = 123581014175598 ∨ Int64.ofNat (e256 (kwS.getD j [])) = 1718186605 ∨ Int64.ofNat (e256 (kwS.getD j [])) = 119182682386035 ∨ Int64.ofNat (e256 (kwS.getD j [])) = 465826574451 ∨ Int64.ofNat (e256 (kwS.getD j [])) = 1835361652 ∨ Int64.ofNat (e256 (kwS.getD j [])) = 28526 ∨ Int64.ofNat (e256 (kwS.getD j [])) = 27710370737579378 ∨ Int64.ofNat (e256 (kwS.getD j [])) = 427071335539 ∨ Int64.ofNat (e256 (kwS.getD j [])) = 491496238692 ∨ Int64.ofNat (e256 (kwS.getD j [])) = 6448484 ∨ Int64.ofNat (e256 (kwS.getD j [])) = 112615677388147 ∨ Int64.ofNat (e256 (kwS.getD j [])) = 1685217655 ∨ Int64.ofNat (e256 (kwS.getD j [])) = 7305070 ∨ Int64.ofNat (e256 (kwS.getD j [])) = 478694368626 ∨ Int64.ofNat (e256 (kwS.getD j [])) = 1936683621 ∨ Int64.ofNat (e256 (kwS.getD j [])) = 6578553 ∨ Int64.ofNat (e256 (kwS.getD j [])) = 2003133803 ∨ Int64.ofNat (e256 (kwS.getD j [])) = 6385252 ∨ Int64.ofNat (e256 (kwS.getD j [])) = 28530 ∨ Int64.ofNat (e256 (kwS.getD j [])) = 7237492))
      rw [hx]
      exact this j hj
    exact big j hj _ h
theorem MTk.nm (h : MTk T n p w) : pX10_isName w ↔ tC T n p = 3 := by
  unfold pX10_isName
  rw [h.2.2.1, mS_1, own_iff]
  constructor
  · rintro ⟨h1, h2⟩
    rcases h1 with h1 | h1
    · exact h1
    · exfalso
      have t4 := tC_4 h1
      refine h2 ⟨kwS.idxOf (tW T n p), kw_mem.mp t4.1, ?_⟩
      rw [h.2.2.2.2.2 (Or.inr h1), (kw_ix (kw_mem.mp t4.1)).mpr rfl]
  · intro h1
    refine ⟨Or.inl h1, ?_⟩
    rintro ⟨j, hj, e⟩
    have hk := kw_lwr hj
    rw [h.2.2.2.2.2 (Or.inl h1)] at e
    have e := (n256 tW_lwr hk.1 (tC_3 h1).2 hk.2).mp e
    exact (tC_3 h1).1 (by rw [e]; exact kw_get hj)
end MKT
