/-! the reference reads a text -/
section MRD
variable {E : px_E} {d : Nat} {w w0 : pw_W} {Q : Option Value → pw_W → Prop} {t : ct_T} {T : Nat → Nat} {n p : Nat} {D : DS}
theorem mAll {R : PR DS} (hS : MS0 T n w0) (k1 : ∀ D', R = .inr D' → WD D' → ∀ q w', MG t T n q D' w0 w' → Q none w') (k0 : ∀ e, R = .inl e → ∀ D' w', MBd t e D' w0 w' → Q none w') :
    ∀ (m : Nat) (D : DS) (p : Nat) (w : pw_W), n - p < m → WD D → dF D = 0 → UD D → MG t T n p D w0 w → R = pAll T n m D p → px_W E mX10_readAll (d + 8) 0 0 88 [.ref 61] [] w Q := by
  intro m
  induction m with
  | zero => intro D p w h; omega
  | succ m ih =>
    intro D p w hm hD hF hU hG hR
    have hp := hG.2.2.1
    have f2 := hG.2.2.2.2.1
    have c0 : pw_I w 61 6 = 0 ↔ tC T n p = 0 := by rw [hG.2.2.2.1.2.2.1]; exact mS_0
    rw [pAll] at hR
    refine bX10_readAll_88 hG.1 (fun z => absurd f2 z) (fun _ z => ?_) (fun _ z => ?_) <;> rw [c0] at z
    · rw [if_pos z] at hR
      exact bX10_readAll_109 hG.1 (k1 D hR hD p w hG)
    · rw [if_neg z] at hR
      refine tX10_readLine hS hD hU hG (fun q D' h w1 g1 => ?_) (fun e h D' w1 b1 => ?_)
      · obtain ⟨a1, a2, a3, a4⟩ := pLine_m hD hF hp h
        have u1 := pLine_u hU h
        rw [h, pB_R] at hR
        exact bX10_readAll_106 g1.1 (ih D' q w1 (by omega) a1 a2 u1 g1 hR)
      · rw [h, pB_L] at hR
        exact bX10_readAll_106 b1.1 (bX10_readAll_88 b1.1 (fun _ => bX10_readAll_109 b1.1 (k0 e hR D' w1 b1)) (fun y => absurd y b1.gt.2) (fun y => absurd y b1.gt.2))
theorem tX10_readAll (hw : w.1 = cs t) (hT : ∀ i, i < n → T i < 256) (hn : n ≤ 1600) (h1 : pw_I w 61 1 = nI n) (h62 : ∀ i, i < n → pw_I w 62 i = nI (T i))
    (k1 : ∀ D', pAll T n (n + 1) D0 0 = .inr D' → WD D' → ∀ w', w'.1 = cs t → agF pcM (1 :: pfM) w w' → MD D' w' → pw_I w' 61 2 = 0 → pw_I w' 61 3 = -1 → pw_I w' 61 1 = 0 → Q none w')
    (k0 : ∀ e, pAll T n (n + 1) D0 0 = .inl e → ∀ w', w'.1 = cs t → agF pcM (1 :: pfM) w w' → 1 ≤ e.1 ∧ e.1 ≤ 5 → pw_I w' 61 2 = nI e.1 → pw_I w' 61 3 = nI e.2 → pw_I w' 61 1 = 0 → Q none w') : px_Call E (d + 8) 0 0 mX10_readAll [.ref 61] w Q := by
  refine eX10_readAll hw ?_
  obtain ⟨w1, e1⟩ : ∃ w1, w1 = pw_sI (pw_sI (pw_sI (pw_sI (pw_sI (pw_sI (pw_sI (pw_sI (pw_sI (pw_sI (pw_sI (pw_sI (pw_sI (pw_sI (pw_sI (pw_sI w 61 5 (pw_I w 61 1)) 61 1 0) 61 4 0) 61 2 0) 61 3 (-1)) 61 45 0) 61 46 0) 61 47 0) 61 48 40) 61 49 0) 61 50 0) 61 57 0) 61 58 0) 61 59 0) 61 24 0) 61 20 0 := ⟨_, rfl⟩
  rw [← e1]
  have hw1 : w1.1 = cs t := by rw [e1]; exact hw
  have a1 : agF [] (1 :: pfM) w w1 := by
    rw [e1]
    exact (agF.sI (by decide)).tr ((agF.sI (by decide)).tr ((agF.sI (by decide)).tr ((agF.sI (by decide)).tr ((agF.sI (by decide)).tr ((agF.sI (by decide)).tr ((agF.sI (by decide)).tr ((agF.sI (by decide)).tr ((agF.sI (by decide)).tr ((agF.sI (by decide)).tr ((agF.sI (by decide)).tr ((agF.sI (by decide)).tr ((agF.sI (by decide)).tr ((agF.sI (by decide)).tr ((agF.sI (by decide)).tr (agF.sI (by decide))))))))))))))))
  have v : ∀ b x, (b, x) ∈ [(1, (0 : Int32)), (4, 0), (2, 0), (3, -1), (45, 0), (46, 0), (47, 0), (48, 40), (49, 0), (50, 0), (57, 0), (58, 0), (59, 0), (24, 0), (20, 0)] → pw_I w1 61 b = x := by
    intro b x hb
    rw [e1]
    simp only [List.mem_cons, Prod.mk.injEq, List.not_mem_nil, or_false] at hb
    rcases hb with ⟨rfl, rfl⟩ | ⟨rfl, rfl⟩ | ⟨rfl, rfl⟩ | ⟨rfl, rfl⟩ | ⟨rfl, rfl⟩ | ⟨rfl, rfl⟩ | ⟨rfl, rfl⟩ | ⟨rfl, rfl⟩ | ⟨rfl, rfl⟩ | ⟨rfl, rfl⟩ | ⟨rfl, rfl⟩ | ⟨rfl, rfl⟩ | ⟨rfl, rfl⟩ | ⟨rfl, rfl⟩ | ⟨rfl, rfl⟩ <;> simp [pw_I_sI]
  have v5 : pw_I w1 61 5 = nI n := by rw [e1]; simp [pw_I_sI]; exact h1
  have hS : MS0 T n w1 := ⟨hT, hn, fun i hi => (a1.I List.not_mem_nil (by decide) i).trans (h62 i hi)⟩
  refine tX10_token (T := T) (n := n) (p := 0) hw1 hT hn (Nat.zero_le _) hS.2.2 v5 (v 4 0 (by decide)) (fun w2 hw2 a2 t2 => ?_)
  have fo : ∀ b, b ∉ [4, 6, 7, 8, 9] → pw_I w2 61 b = pw_I w1 61 b := fun b hb => a2.F List.not_mem_nil (fun z => hb (by revert z; simp))
  have g2 : MG t T n 0 D0 w1 w2 := by
    refine ⟨hw2, a2.mono (fun a h => absurd h List.not_mem_nil) (by decide), Nat.zero_le _, t2, ?_, ?_, ⟨⟨?_, ?_, ?_, ?_, ?_, ?_, ?_⟩, fun i hi => absurd hi (Nat.not_lt_zero i), fun i hi => absurd hi (Nat.not_lt_zero i), fun i hi => absurd hi (Nat.not_lt_zero i), fun i hi => absurd hi (Nat.not_lt_zero i)⟩, ⟨fun i hi => absurd hi (Nat.not_lt_zero i), fun i hi => absurd hi (Nat.not_lt_zero i)⟩, ⟨?_, ?_, ?_, ?_⟩, fun _ => rfl, fun z => ?_⟩
    · rw [fo 2 (by decide)]; exact v 2 0 (by decide)
    · rw [fo 3 (by decide)]; exact v 3 (-1) (by decide)
    · rw [fo 45 (by decide)]; exact v 45 0 (by decide)
    · rw [fo 46 (by decide)]; exact v 46 0 (by decide)
    · rw [fo 47 (by decide)]; exact v 47 0 (by decide)
    · rw [fo 48 (by decide)]; exact v 48 40 (by decide)
    · rw [fo 49 (by decide)]; exact v 49 0 (by decide)
    · rw [fo 50 (by decide)]; exact v 50 0 (by decide)
    · rw [fo 20 (by decide)]; exact v 20 0 (by decide)
    · rw [fo 24 (by decide)]; exact v 24 0 (by decide)
    · rw [fo 57 (by decide)]; exact v 57 0 (by decide)
    · rw [fo 58 (by decide)]; exact v 58 0 (by decide)
    · rw [fo 59 (by decide)]; exact v 59 0 (by decide)
    · have z : (0 : Nat).testBit 3 = true := z
      exact absurd z (by decide)
  have back : ∀ w', agF pcM pfM w1 w' → agF pcM (1 :: pfM) w w' ∧ pw_I w' 61 1 = 0 := fun w' ha =>
    ⟨(a1.mono (fun a h => absurd h List.not_mem_nil) (fun a h => h)).tr (ha.mono (fun a h => h) (fun a h => List.mem_cons_of_mem _ h)), (ha.F (by decide) (by decide)).trans (v 1 0 (by decide))⟩
  refine mAll (R := pAll T n (n + 1) D0 0) hS (fun D' hR hD q w' g' => ?_) (fun e hR D' w' b' => ?_) (n + 1) D0 0 w2 (by omega) WD_0 rfl (fun _ => rfl) g2 rfl
  · have b := back w' g'.2.1
    exact k1 D' hR hD w' g'.1 b.1 g'.2.2.2.2.2.2 g'.2.2.2.2.1 g'.2.2.2.2.2.1 b.2
  · have b := back w' b'.2.1
    exact k0 e hR w' b'.1 b.1 b'.2.2.2.1 b'.2.2.1 b'.2.2.2.2.1 b.2
end MRD
