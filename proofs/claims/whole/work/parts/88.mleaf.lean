section MFM
variable {E : px_E} {d : Nat} {w w0 : pw_W} {Q : Option Value → pw_W → Prop} {t : ct_T} {T : Nat → Nat} {n p u : Nat} {pr : List Int32} {D : DS}
theorem asq_u : (asq T n p < 0 ∧ (tC T n p = 2 ∨ uAt T n p = -100)) ∨ (¬ asq T n p < 0 ∧ ¬ tC T n p = 2 ∧ ∃ j : Nat, j < 5 ∧ asq T n p = nI j ∧ uAt T n p = -1 - nI j) := by
  unfold asq uAt
  by_cases h2 : tC T n p = 2
  · left; rw [if_neg (by omega)]; exact ⟨by decide, Or.inl h2⟩
  · by_cases h4 : tC T n p = 4
    · rw [if_pos h4, if_neg h2, if_pos h4]
      by_cases a : tV T n p = 15
      · right; rw [if_pos a, if_pos a]; exact ⟨by decide, h2, 0, by decide, rfl, by decide⟩
      · rw [if_neg a, if_neg a]
        by_cases b : tV T n p = 16
        · right; rw [if_pos b, if_pos b]; exact ⟨by decide, h2, 1, by decide, rfl, by decide⟩
        · rw [if_neg b, if_neg b]
          by_cases c : tV T n p = 17
          · right; rw [if_pos c, if_pos c]; exact ⟨by decide, h2, 2, by decide, rfl, by decide⟩
          · rw [if_neg c, if_neg c]
            by_cases e : tV T n p = 18
            · right; rw [if_pos e, if_pos e]; exact ⟨by decide, h2, 3, by decide, rfl, by decide⟩
            · rw [if_neg e, if_neg e]
              by_cases f : tV T n p = 19
              · right; rw [if_pos f, if_pos f]; exact ⟨by decide, h2, 4, by decide, rfl, by decide⟩
              · left; rw [if_neg f, if_neg f]; exact ⟨by decide, Or.inr rfl⟩
    · left; rw [if_neg h4, if_neg h2, if_neg h4]; exact ⟨by decide, Or.inr rfl⟩
theorem MG.unit (hG : MG t T n p (dFm D u pr) w0 w) : MG t T n p (dFm D (u + 1) pr) w0 (pw_sI (pw_sI w 61 20 (pw_I w 61 20 + 1)) 61 22 (pw_I w 61 22 + 1)) := by
  obtain ⟨hw, hA, hp, hk, f2, f3, ⟨g1, g2, g3, g4, g5⟩, gn, go, gf⟩ := hG
  have a1 : agF [] [20, 22] w (pw_sI (pw_sI w 61 20 (pw_I w 61 20 + 1)) 61 22 (pw_I w 61 22 + 1)) := (agF.sI (by decide)).tr (agF.sI (by decide))
  have fo : ∀ b, b ≠ 20 → b ≠ 22 → pw_I (pw_sI (pw_sI w 61 20 (pw_I w 61 20 + 1)) 61 22 (pw_I w 61 22 + 1)) 61 b = pw_I w 61 b := fun b q1 q2 => by rw [pw_oth (fun _ z => q2 z), pw_oth (fun _ z => q1 z)]
  have co : ∀ a, a ≠ 61 → ∀ b, pw_I (pw_sI (pw_sI w 61 20 (pw_I w 61 20 + 1)) 61 22 (pw_I w 61 22 + 1)) a b = pw_I w a b := fun a q b => by rw [pw_oth (fun z _ => q z), pw_oth (fun z _ => q z)]
  refine ⟨hI (hI hw), hA.tr (a1.mono (fun a h => absurd h List.not_mem_nil) (by decide)), hp, hk.agF a1 List.not_mem_nil (by decide), ?_, ?_, ⟨⟨?_, ?_, ?_, ?_, ?_, ?_, ?_⟩, fun i hi => ?_, fun i hi => ?_, fun b hb => ?_, fun b hb j hj => ?_⟩, gn, ?_, gf.1, fun z => ⟨?_, fun i hi => ?_⟩⟩
  · rw [fo 2 (by decide) (by decide)]; exact f2
  · rw [fo 3 (by decide) (by decide)]; exact f3
  · rw [fo 45 (by decide) (by decide)]; exact g1.1
  · rw [fo 46 (by decide) (by decide)]; exact g1.2.1
  · rw [fo 47 (by decide) (by decide)]; exact g1.2.2.1
  · rw [fo 48 (by decide) (by decide)]; exact g1.2.2.2.1
  · rw [fo 49 (by decide) (by decide)]; exact g1.2.2.2.2.1
  · rw [fo 50 (by decide) (by decide)]; exact g1.2.2.2.2.2.1
  · have g20 : pw_I w 61 20 = nI u := g1.2.2.2.2.2.2
    rw [pw_oth (by decide), pw_same, g20, ← nI_succ]; rfl
  · rw [co 71 (by decide), co 72 (by decide), co 73 (by decide)]; exact g2 i hi
  · rw [co 74 (by decide), co 75 (by decide), co 76 (by decide)]; exact g3 i hi
  · rw [co 77 (by decide), co 79 (by decide)]; exact g4 b hb
  · rw [co 78 (by decide)]; exact g5 b hb j hj
  · unfold MDo; rw [fo 24 (by decide) (by decide), fo 57 (by decide) (by decide), fo 58 (by decide) (by decide), fo 59 (by decide) (by decide)]; exact go
  · rw [fo 17 (by decide) (by decide)]; exact (gf.2 z).1
  · rw [co 64 (by decide), co 65 (by decide)]; exact (gf.2 z).2 i hi
end MFM
