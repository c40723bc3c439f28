/-! support of the block rows -/
def px_sub : List Value → List Value → Prop
  | [], _ => True
  | a :: as, b :: bs => (a = .null ∨ a = b) ∧ px_sub as bs
  | _ :: _, [] => False
theorem px_sub_spec : ∀ {ls' ls : List Value}, px_sub ls' ls → ∀ (i : Nat) (v : Value), ls'[i]? = some v → v ≠ .null → ls[i]? = some v
  | [], _, _, i, v, h, _ => by simp at h
  | a :: as, b :: bs, hs, i, v, h, hv => by
    cases i with
    | zero =>
      simp at h
      subst h
      rcases hs.1 with h1 | h1
      · exact absurd h1 hv
      · rw [h1]; rfl
    | succ i => exact px_sub_spec hs.2 i v (by simpa using h) hv
  | _ :: _, [], hs, _, _, _, _ => hs.elim
theorem px_forget {E : px_E} {mt : pm_T} {d rc rs pc : Nat} {ls ls' st : List Value} {w : pw_W} {Q : Option Value → pw_W → Prop} (h : px_W E mt d rc rs pc ls' st w Q) (hs : px_sub ls' ls) : px_W E mt d rc rs pc ls st w Q := by
  intro p e R s m args below meth c Z cx H locs cells slots lsA hC hK hn hH hl hL hR
  exact h p e R s m args below meth c Z cx H locs cells slots lsA hC hK hn hH hl ⟨hL.1, hL.2.1, fun i v hi hv => hL.2.2 i v (px_sub_spec hs i v hi hv) hv⟩ hR
/-- a truth as a number -/
def jb (p : Prop) [Decidable p] : Int32 := if p then 1 else 0
theorem jb_t {p : Prop} [Decidable p] (h : p) : jb p = 1 := if_pos h
theorem jb_f {p : Prop} [Decidable p] (h : ¬ p) : jb p = 0 := if_neg h
theorem jb_eq0 {p : Prop} [Decidable p] : jb p = 0 ↔ ¬ p := by
  by_cases h : p
  · rw [jb_t h]; exact ⟨fun h2 => absurd h2 (by decide), fun h2 => absurd h h2⟩
  · rw [jb_f h]; exact ⟨fun _ => h, fun _ => rfl⟩
theorem jb_01 {p : Prop} [Decidable p] : jb p = 0 ∨ jb p = 1 := by
  by_cases h : p
  · exact Or.inr (jb_t h)
  · exact Or.inl (jb_f h)
theorem px_nb {v : Int32} (h : v = 0 ∨ v = 1) : narrow .boolean (.int v) = .int v := by rcases h with rfl | rfl <;> decide
theorem px_fb {v : Int32} (h : v = 0 ∨ v = 1) : fits .boolean (.int v) = true := by rcases h with rfl | rfl <;> decide
theorem px_zb {v : Int32} (h : v = 0 ∨ v = 1) : vp_nar .boolean v = v := by rcases h with rfl | rfl <;> decide
theorem px_njb {p : Prop} [Decidable p] : narrow .boolean (.int (jb p)) = .int (jb p) := px_nb jb_01
section PWR
variable {E : px_E} {mt : pm_T} {d rc rs pc : Nat} {ls st : List Value} {w : pw_W} {Q : Option Value → pw_W → Prop}
theorem px_jb_eq {p : Prop} [Decidable p] {off : Int} {tgt : Nat} (hd : decode mt.2.1 pc = .ok (.ifCond .eq off, 3)) (ht : (pc : Int) + off = (tgt : Int)) (k1 : ¬ p → px_W E mt d rc rs tgt ls st w Q) (k2 : p → px_W E mt d rc rs (pc + 3) ls st w Q) : px_W E mt d rc rs pc ls (.int (jb p) :: st) w Q :=
  px_if_eq hd ht (fun h => k1 (jb_eq0.mp h)) (fun h => k2 (Classical.not_not.mp (fun z => h (jb_eq0.mpr z))))
theorem px_jb_ne {p : Prop} [Decidable p] {off : Int} {tgt : Nat} (hd : decode mt.2.1 pc = .ok (.ifCond .ne off, 3)) (ht : (pc : Int) + off = (tgt : Int)) (k1 : p → px_W E mt d rc rs tgt ls st w Q) (k2 : ¬ p → px_W E mt d rc rs (pc + 3) ls st w Q) : px_W E mt d rc rs pc ls (.int (jb p) :: st) w Q :=
  px_if_ne hd ht (fun h => k1 (Classical.not_not.mp (fun z => h (jb_eq0.mpr z)))) (fun h => k2 (jb_eq0.mp h))
theorem px_lcmp_eq {x y : Int64} {off : Int} {tgt : Nat} (hd : decode mt.2.1 pc = .ok (.lcmp, 1)) (hd2 : decode mt.2.1 (pc + 1) = .ok (.ifCond .eq off, 3)) (ht : ((pc + 1 : Nat) : Int) + off = (tgt : Int)) (k1 : x = y → px_W E mt d rc rs tgt ls st w Q) (k2 : ¬ x = y → px_W E mt d rc rs (pc + 1 + 3) ls st w Q) : px_W E mt d rc rs pc ls (.long y :: .long x :: st) w Q :=
  px_lcmp hd (px_if_eq hd2 ht (fun h => k1 ((lg_cmp_eq x y).mp h)) (fun h => k2 (fun z => h ((lg_cmp_eq x y).mpr z))))
theorem px_lcmp_ne {x y : Int64} {off : Int} {tgt : Nat} (hd : decode mt.2.1 pc = .ok (.lcmp, 1)) (hd2 : decode mt.2.1 (pc + 1) = .ok (.ifCond .ne off, 3)) (ht : ((pc + 1 : Nat) : Int) + off = (tgt : Int)) (k1 : ¬ x = y → px_W E mt d rc rs tgt ls st w Q) (k2 : x = y → px_W E mt d rc rs (pc + 1 + 3) ls st w Q) : px_W E mt d rc rs pc ls (.long y :: .long x :: st) w Q :=
  px_lcmp hd (px_if_ne hd2 ht (fun h => k1 (fun z => h ((lg_cmp_eq x y).mpr z))) (fun h => k2 ((lg_cmp_eq x y).mp h)))
end PWR
theorem ic_m1 : Int32.ofInt (-1) = (-1) := by decide
theorem ic_0 : Int32.ofInt 0 = 0 := by decide
theorem ic_1 : Int32.ofInt 1 = 1 := by decide
theorem ic_2 : Int32.ofInt 2 = 2 := by decide
theorem ic_3 : Int32.ofInt 3 = 3 := by decide
theorem ic_4 : Int32.ofInt 4 = 4 := by decide
theorem ic_5 : Int32.ofInt 5 = 5 := by decide
theorem bp_m100 : (Int8.ofInt (-100)).toInt32 = (-100) := by decide
theorem bp_m16 : (Int8.ofInt (-16)).toInt32 = (-16) := by decide
theorem bp_m15 : (Int8.ofInt (-15)).toInt32 = (-15) := by decide
theorem bp_m14 : (Int8.ofInt (-14)).toInt32 = (-14) := by decide
theorem bp_m13 : (Int8.ofInt (-13)).toInt32 = (-13) := by decide
theorem bp_m12 : (Int8.ofInt (-12)).toInt32 = (-12) := by decide
theorem bp_m11 : (Int8.ofInt (-11)).toInt32 = (-11) := by decide
theorem bp_m10 : (Int8.ofInt (-10)).toInt32 = (-10) := by decide
theorem bp_m9 : (Int8.ofInt (-9)).toInt32 = (-9) := by decide
theorem bp_m8 : (Int8.ofInt (-8)).toInt32 = (-8) := by decide
theorem bp_m7 : (Int8.ofInt (-7)).toInt32 = (-7) := by decide
theorem bp_m6 : (Int8.ofInt (-6)).toInt32 = (-6) := by decide
theorem bp_m5 : (Int8.ofInt (-5)).toInt32 = (-5) := by decide
theorem bp_m4 : (Int8.ofInt (-4)).toInt32 = (-4) := by decide
theorem bp_m3 : (Int8.ofInt (-3)).toInt32 = (-3) := by decide
theorem bp_m2 : (Int8.ofInt (-2)).toInt32 = (-2) := by decide
theorem bp_6 : (Int8.ofInt 6).toInt32 = 6 := by decide
theorem bp_7 : (Int8.ofInt 7).toInt32 = 7 := by decide
theorem bp_8 : (Int8.ofInt 8).toInt32 = 8 := by decide
theorem bp_9 : (Int8.ofInt 9).toInt32 = 9 := by decide
theorem bp_10 : (Int8.ofInt 10).toInt32 = 10 := by decide
theorem bp_11 : (Int8.ofInt 11).toInt32 = 11 := by decide
theorem bp_12 : (Int8.ofInt 12).toInt32 = 12 := by decide
theorem bp_13 : (Int8.ofInt 13).toInt32 = 13 := by decide
theorem bp_14 : (Int8.ofInt 14).toInt32 = 14 := by decide
theorem bp_15 : (Int8.ofInt 15).toInt32 = 15 := by decide
theorem bp_16 : (Int8.ofInt 16).toInt32 = 16 := by decide
theorem bp_17 : (Int8.ofInt 17).toInt32 = 17 := by decide
theorem bp_20 : (Int8.ofInt 20).toInt32 = 20 := by decide
theorem bp_21 : (Int8.ofInt 21).toInt32 = 21 := by decide
theorem bp_24 : (Int8.ofInt 24).toInt32 = 24 := by decide
theorem bp_30 : (Int8.ofInt 30).toInt32 = 30 := by decide
theorem bp_31 : (Int8.ofInt 31).toInt32 = 31 := by decide
theorem bp_32 : (Int8.ofInt 32).toInt32 = 32 := by decide
theorem bp_37 : (Int8.ofInt 37).toInt32 = 37 := by decide
theorem bp_38 : (Int8.ofInt 38).toInt32 = 38 := by decide
theorem bp_39 : (Int8.ofInt 39).toInt32 = 39 := by decide
theorem bp_40 : (Int8.ofInt 40).toInt32 = 40 := by decide
theorem bp_41 : (Int8.ofInt 41).toInt32 = 41 := by decide
theorem bp_42 : (Int8.ofInt 42).toInt32 = 42 := by decide
theorem bp_43 : (Int8.ofInt 43).toInt32 = 43 := by decide
theorem bp_45 : (Int8.ofInt 45).toInt32 = 45 := by decide
theorem bp_47 : (Int8.ofInt 47).toInt32 = 47 := by decide
theorem bp_48 : (Int8.ofInt 48).toInt32 = 48 := by decide
theorem bp_57 : (Int8.ofInt 57).toInt32 = 57 := by decide
theorem bp_59 : (Int8.ofInt 59).toInt32 = 59 := by decide
theorem bp_60 : (Int8.ofInt 60).toInt32 = 60 := by decide
theorem bp_61 : (Int8.ofInt 61).toInt32 = 61 := by decide
theorem bp_62 : (Int8.ofInt 62).toInt32 = 62 := by decide
theorem bp_63 : (Int8.ofInt 63).toInt32 = 63 := by decide
theorem bp_64 : (Int8.ofInt 64).toInt32 = 64 := by decide
theorem bp_67 : (Int8.ofInt 67).toInt32 = 67 := by decide
theorem bp_71 : (Int8.ofInt 71).toInt32 = 71 := by decide
theorem bp_90 : (Int8.ofInt 90).toInt32 = 90 := by decide
theorem bp_97 : (Int8.ofInt 97).toInt32 = 97 := by decide
theorem bp_99 : (Int8.ofInt 99).toInt32 = 99 := by decide
theorem bp_100 : (Int8.ofInt 100).toInt32 = 100 := by decide
theorem bp_122 : (Int8.ofInt 122).toInt32 = 122 := by decide
theorem bp_124 : (Int8.ofInt 124).toInt32 = 124 := by decide
theorem sp_137 : (Int16.ofInt 137).toInt32 = 137 := by decide
theorem sp_160 : (Int16.ofInt 160).toInt32 = 160 := by decide
theorem sp_255 : (Int16.ofInt 255).toInt32 = 255 := by decide
theorem sp_270 : (Int16.ofInt 270).toInt32 = 270 := by decide
theorem sp_320 : (Int16.ofInt 320).toInt32 = 320 := by decide
theorem sp_585 : (Int16.ofInt 585).toInt32 = 585 := by decide
theorem sp_600 : (Int16.ofInt 600).toInt32 = 600 := by decide
theorem sp_615 : (Int16.ofInt 615).toInt32 = 615 := by decide
theorem sp_720 : (Int16.ofInt 720).toInt32 = 720 := by decide
theorem sp_999 : (Int16.ofInt 999).toInt32 = 999 := by decide
theorem sp_1000 : (Int16.ofInt 1000).toInt32 = 1000 := by decide
theorem sp_1023 : (Int16.ofInt 1023).toInt32 = 1023 := by decide
theorem sp_1600 : (Int16.ofInt 1600).toInt32 = 1600 := by decide
theorem sp_2790 : (Int16.ofInt 2790).toInt32 = 2790 := by decide
