def agI (S : List Nat) (w w' : pw_W) : Prop := ∀ a, a ∉ S → pw_I w' a = pw_I w a ∧ pw_L w' a = pw_L w a
section XRD
variable {E : px_E} {d : Nat} {w : pw_W} {Q : Option Value → pw_W → Prop} {t : ct_T} {T : Nat → Nat} {n : Nat}
theorem tX5_read {v : Int32} (hv : v = nI n) (hw : w.1 = cs t) (ht : is_Hamlet t.2.1) (hT : ∀ i, i < n → T i < 256) (hn : n ≤ 1600) (h0 : ∀ i, i < n → pw_I w 2 i = js_i2b (nI (T i))) (hK : XK w)
    (k1 : ∀ D', pAll T n (n + 1) D0 0 = .inr D' → WD D' → ∀ w', w'.1 = cs (t.1, t.2.1, 2) → agI (dX t) w w' → RXH (dH D') w' t.2.1 → pw_I w' 16 5 = 0 → pw_I w' 16 6 = -1 → Q (some (.int 1)) w')
    (k0 : ∀ e, pAll T n (n + 1) D0 0 = .inl e → ∀ w', w'.1 = cs (t.1, t.2.1, 2) → agI (dX t) w w' → 1 ≤ e.1 ∧ e.1 ≤ 5 → pw_I w' 16 5 = nI e.1 → pw_I w' 16 6 = nI e.2 → Q (some (.int 0)) w') : px_Call E (d + 112) 0 0 mX5_read [.ref 16, .ref 2, .int v] w Q := by
  subst hv
  refine eX5_read hw ht (tX2_clear hw ht (fun w1 hw1 a1 r1 => bX5_read_7 hw1 ht ?_))
  have nH : ∀ a ∈ [2, 16, 17, 18], a ∉ [t.2.1, t.2.1 + 10, t.2.1 + 11] := fun a h z => by
    rcases ht with e | e <;> rw [e] at z <;> simp at h z <;> omega
  have n2 : 2 ∉ dX t ∧ 18 ∉ dX t := by
    rcases ht with e | e <;> unfold dX <;> rw [e] <;> decide
  obtain ⟨w2, e2⟩ : ∃ w2, w2 = pw_sI (pw_sI (pw_sI w1 16 4 0) 16 5 0) 16 6 (-1) := ⟨_, rfl⟩
  rw [← e2]
  have hw2 : w2.1 = cs t := by rw [e2]; exact hI (hI (hI hw1))
  have a2 : ag [16] w1 w2 := by rw [e2]; exact (ag.sI (by decide)).tr ((ag.sI (by decide)).tr (ag.sI (by decide)))
  have f4 : pw_I w2 16 4 = 0 := by rw [e2, pw_oth (by decide), pw_oth (by decide), pw_same]
  have f5 : pw_I w2 16 5 = 0 := by rw [e2, pw_oth (by decide), pw_same]
  have f6 : pw_I w2 16 6 = -1 := by rw [e2, pw_same]
  have sR : (pw_sR w2 17 1 2).1 = cs (t.1, t.2.1, 2) := cs_sR_17_1 hw2
  have mn : js_min (nI n) (nI 1600) = nI n := if_neg (nI_nlt (b := n) hn (by decide))
  refine eX6_begin hw2 sh_2 (by decide) (by decide) ?_
  rw [mn]
  refine bX6_begin_15 (t := (t.1, t.2.1, 2)) (hI sR) (r1 := 2) sh_2 (by decide) (by decide) ?_
  have tp : ∀ i, i < n → pw_I (pw_sR w2 17 1 2) 2 i = js_i2b (nI (T i)) := fun i hi => by
    rw [pw_I_sR, a2.I (by decide), a1.I (nH 2 (by decide))]; exact h0 i hi
  have kk : XK (pw_sR w2 17 1 2) := fun i hi => by
    rw [pw_L_sR, a2.L (by decide), a1.L (nH 18 (by decide))]; exact hK i hi
  have hS : XS0 (t.1, t.2.1, 2) T n (pw_sR w2 17 1 2) := ⟨rfl, ht, hT, hn, tp, kk⟩
  have b0 : ag [17] (pw_sR w2 17 1 2) (pw_sI (pw_sI (pw_sR w2 17 1 2) 17 2 (nI n)) 17 3 0) := (ag.sI (by decide)).tr (ag.sI (by decide))
  have back : ∀ w', ag (dX (t.1, t.2.1, 2)) (pw_sR w2 17 1 2) w' → agI (dX t) w w' := fun w' ha a hn => by
    have hd : a ∉ dX (t.1, t.2.1, 2) := hn
    have h1 := ha.2 a hd
    have n16 : a ∉ [16] := fun z => hn (by rw [List.mem_singleton.mp z]; simp)
    have nn : a ∉ [t.2.1, t.2.1 + 10, t.2.1 + 11] := fun z => hn (by
      simp at z
      rcases z with rfl | rfl | rfl
      · exact dX_in (c := 0) (by decide)
      · exact dX_in (by decide)
      · exact dX_in (by decide))
    exact ⟨h1.1.trans ((a2.2 a n16).1.trans (a1.2 a nn).1), h1.2.trans ((a2.2 a n16).2.trans (a1.2 a nn).2)⟩
  refine tX6_advance (T := T) (n := n) (p := 0) (t := (t.1, t.2.1, 2)) (hI (hI sR)) rfl hT hn (Nat.zero_le _) (fun i hi => (b0.I (by decide) i).trans (tp i hi)) (by rw [pw_oth (by decide), pw_same]) pw_same (kk.ag b0 (by decide)) (fun w3 hw3 a3 k3 => ?_)
  have a30 : ag [17] (pw_sR w2 17 1 2) w3 := b0.tr a3
  have hG : XG (t.1, t.2.1, 2) T n 0 D0 (pw_sR w2 17 1 2) w3 := by
    refine ⟨hw3, a30.mono (fun a h => by rw [List.mem_singleton.mp h]; simp), Nat.zero_le _, k3, ?_, ?_, ?_, fun i hi => absurd hi (Nat.not_lt_zero i), fun i hi => absurd hi (Nat.not_lt_zero i), ?_⟩
    · rw [a30.I (by decide)]; exact f5
    · rw [a30.I (by decide)]; exact f6
    · refine RXD.of (r1.I (fun c hc b => ?_))
      have q := dX_ne ht hc
      rw [a30.I (fun z => q.2.1 (List.mem_singleton.mp z)), pw_I_sR, a2.I (fun z => q.1 (List.mem_singleton.mp z))]
    · rw [a30.I (by decide)]; exact f4
  refine bX6_begin_24 (t := (t.1, t.2.1, 2)) hw3 (r1 := 2) sh_2 (by decide) (by decide) ?_
  refine bX5_read_31 (t := (t.1, t.2.1, 2)) (r1 := 2) hw3 ht ?_
  refine xAll (R := pAll T n (n + 1) D0 0) hS (fun D' hR hD hF q w' g' => ?_) (fun e hR w' b' => ?_) (n + 1) 0 D0 0 w3 (by omega) (Nat.le_refl _) WD_0 rfl hG rfl
  · have rx := g'.2.2.2.2.2.2.1
    rw [hF] at rx
    exact k1 D' hR hD w' g'.1 (back w' g'.2.1) rx.to g'.2.2.2.2.1 g'.2.2.2.2.2.1
  · exact k0 e hR w' b'.1 (back w' b'.2.1) b'.2.2.2.1 b'.2.2.1 b'.2.2.2.2.1
end XRD
