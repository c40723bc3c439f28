/-! the class reads a PERSON -/
theorem RXH.st {h : aH} {w : pw_W} {r a k : Nat} {v : Int32} (hH : RXH h w r) (h0 : a ≠ r) (h1 : (a = r + 1 ∨ a = r + 2 ∨ a = r + 3) → aNp h ≤ k) (h4 : (a = r + 4 ∨ a = r + 5 ∨ a = r + 6) → aNm h ≤ k) (h7 : (a = r + 7 ∨ a = r + 8) → aNb h ≤ k) (h9 : a = r + 9 → ∀ b, b < aNb h → ∀ j, j < aRs h b → 6 * b + j ≠ k) (h10 : a ≠ r + 10) (h11 : a ≠ r + 11) : RXH h (pw_sI w a k v) r := by
  obtain ⟨⟨a0, a1, a2, a3, a4, a5⟩, b1, b2, b3, b4, b5, b6, b7⟩ := hH
  refine ⟨⟨?_, ?_, ?_, ?_, ?_, ?_⟩, fun i hi => ⟨?_, ?_, ?_⟩, fun i hi => ⟨?_, ?_, ?_⟩, fun i hi => ⟨?_, ?_⟩, fun b hb k hk => ?_, ?_, ?_, fun i hi => ?_⟩
  · rw [pw_oth (fun z _ => h0 z.symm)]; exact a0
  · rw [pw_oth (fun z _ => h0 z.symm)]; exact a1
  · rw [pw_oth (fun z _ => h0 z.symm)]; exact a2
  · rw [pw_oth (fun z _ => h0 z.symm)]; exact a3
  · rw [pw_oth (fun z _ => h0 z.symm)]; exact a4
  · rw [pw_oth (fun z _ => h0 z.symm)]; exact a5
  · rw [pw_oth (fun z1 z2 => by have := h1 (Or.inl z1.symm); omega)]; exact (b1 i hi).1
  · rw [pw_oth (fun z1 z2 => by have := h1 (Or.inr (Or.inl z1.symm)); omega)]; exact (b1 i hi).2.1
  · rw [pw_oth (fun z1 z2 => by have := h1 (Or.inr (Or.inr z1.symm)); omega)]; exact (b1 i hi).2.2
  · rw [pw_oth (fun z1 z2 => by have := h4 (Or.inl z1.symm); omega)]; exact (b2 i hi).1
  · rw [pw_oth (fun z1 z2 => by have := h4 (Or.inr (Or.inl z1.symm)); omega)]; exact (b2 i hi).2.1
  · rw [pw_oth (fun z1 z2 => by have := h4 (Or.inr (Or.inr z1.symm)); omega)]; exact (b2 i hi).2.2
  · rw [pw_oth (fun z1 z2 => by have := h7 (Or.inl z1.symm); omega)]; exact (b3 i hi).1
  · rw [pw_oth (fun z1 z2 => by have := h7 (Or.inr z1.symm); omega)]; exact (b3 i hi).2
  · rw [pw_oth (fun z1 z2 => h9 z1.symm b hb k hk z2)]; exact b4 b hb k hk
  · rw [pw_oth (fun z _ => h10 z.symm)]; exact b5
  · rw [pw_oth (fun z _ => h10 z.symm)]; exact b6
  · rw [pw_oth (fun z _ => h11 z.symm)]; exact b7 i hi
theorem RXD.st {h : aH} {x : Nat} {w : pw_W} {r a k : Nat} {v : Int32} (hH : RXD h x w r) (h0 : a ≠ r) (h1 : (a = r + 1 ∨ a = r + 2 ∨ a = r + 3) → aNp h ≤ k) (h4 : (a = r + 4 ∨ a = r + 5 ∨ a = r + 6) → aNm h ≤ k) (h7 : (a = r + 7 ∨ a = r + 8) → aNb h ≤ k) (h9 : a = r + 9 → ∀ b, b < aNb h → ∀ j, j < aRs h b → 6 * b + j ≠ k) (h10 : a ≠ r + 10) (h11 : a ≠ r + 11) : RXD h x (pw_sI w a k v) r := by
  refine ⟨(hH.1.st (v := v) h0 h1 h4 h7 h9 h10 h11).I (fun c hc b => ?_), by rw [pw_oth (fun z _ => h0 z.symm)]; exact hH.2⟩
  rw [pw_I_sI, pw_I_sI, pw_I_sI, pw_I_sI]
  by_cases z : r + c = r ∧ b = 8
  · rw [if_pos z, if_neg (fun q => h0 (by omega)), if_pos z]
  · rw [if_neg z, if_neg z]
def pB {α β : Type} (x : PR α) (f : α → PR β) : PR β := match x with
  | .inl e => .inl e
  | .inr a => f a
theorem pB_l {α β : Type} {x : PR α} {f : α → PR β} {e : Nat × Nat} (h : x = .inl e) : pB x f = .inl e := by rw [h]; rfl
theorem pB_r {α β : Type} {x : PR α} {f : α → PR β} {a : α} (h : x = .inr a) : pB x f = f a := by rw [h]; rfl
def hP (h : aH) (f l u : Nat) : aH := (fun x => match x with
  | 0 => uN (h.1 0) 0 (aNp h + 1)
  | 1 => uN (h.1 1) (aNp h) f
  | 2 => uN (h.1 2) (aNp h) l
  | 3 => uN (h.1 3) (aNp h) u
  | x => h.1 x, h.2)
def dPer (D : DS) (l : List Nat) (f le u : Nat) : DS := (hP (dH D) f le u, uN (dP D) (aNp (dH D)) l, dB D, dO D, aNp (dH D) + 1, dJ D, dF D)
def pMay (T : Nat → Nat) (n word hi p : Nat) : PR (Nat × Nat) := if tC T n p = 4 ∧ tV T n p = word then pNb T n word 0 hi p else .inr (p, 0)
def pPer (T : Nat → Nat) (n : Nat) (D : DS) (p : Nat) : PR (Nat × DS) :=
  if aNp (dH D) < 6 then pB (pNew T n (dP D) (aNp (dH D)) (tE T n p)) (fun q => pB (pNb T n 1 0 30 q) (fun a => pB (pMay T n 2 9 a.1) (fun b => pB (pMay T n 3 99 b.1) (fun c => pB (pEn T n c.1) (fun z => .inr (z, dPer D (tW T n (tE T n p)) a.2 b.2 c.2)))))) else .inl (rfu T n p)
theorem RXH.addP {h : aH} {w : pw_W} {r f l u : Nat} (hH : RXH h w r) (h1 : pw_I w (r + 1) (aNp h) = nI f) (h2 : pw_I w (r + 2) (aNp h) = nI l) (h3 : pw_I w (r + 3) (aNp h) = nI u) : RXH (hP h f l u) (pw_sI w r 0 (nI (aNp h + 1))) r := by
  obtain ⟨⟨a0, a1, a2, a3, a4, a5⟩, b1, b2, b3, b4, b5, b6, b7⟩ := hH
  have o : ∀ a b, a ≠ r → pw_I (pw_sI w r 0 (nI (aNp h + 1))) a b = pw_I w a b := fun a b z => pw_oth (fun q _ => z q)
  refine ⟨⟨pw_same, ?_, ?_, ?_, ?_, ?_⟩, fun i hi => ?_, fun i hi => ?_, fun i hi => ?_, fun b hb k hk => ?_, ?_, ?_, fun i hi => ?_⟩
  · rw [pw_oth (by omega)]; exact a1
  · rw [pw_oth (by omega)]; exact a2
  · rw [pw_oth (by omega)]; exact a3
  · rw [pw_oth (by omega)]; exact a4
  · rw [pw_oth (by omega)]; exact a5
  · rw [o _ _ (by omega), o _ _ (by omega), o _ _ (by omega)]
    have hi : i < aNp h + 1 := hi
    show pw_I w (r + 1) i = nI (uN (aFm h) (aNp h) f i) ∧ pw_I w (r + 2) i = nI (uN (aLe h) (aNp h) l i) ∧ pw_I w (r + 3) i = nI (uN (aLu h) (aNp h) u i)
    by_cases e : i = aNp h
    · rw [e, uN_s, uN_s, uN_s]; exact ⟨h1, h2, h3⟩
    · rw [uN_o e, uN_o e, uN_o e]; exact b1 i (by omega)
  · rw [o _ _ (by omega), o _ _ (by omega), o _ _ (by omega)]; exact b2 i hi
  · rw [o _ _ (by omega), o _ _ (by omega)]; exact b3 i hi
  · rw [o _ _ (by omega)]; exact b4 b hb k hk
  · rw [o _ _ (by omega)]; exact b5
  · rw [o _ _ (by omega)]; exact b6
  · rw [o _ _ (by omega)]; exact b7 i hi
section XPA
variable {E : px_E} {d : Nat} {w w0 : pw_W} {Q : Option Value → pw_W → Prop} {t : ct_T} {T : Nat → Nat} {n p : Nat} {D : DS}
theorem dX_in {c : Nat} (h : c ≤ 11) : t.2.1 + c ∈ dX t := by
  rcases c with _ | _ | _ | _ | _ | _ | _ | _ | _ | _ | _ | _ | c <;> first | omega | simp
theorem dX_ne (h : is_Hamlet t.2.1) {c : Nat} (hc : c ≤ 11) : t.2.1 + c ≠ 16 ∧ t.2.1 + c ≠ 17 ∧ t.2.1 + c ≠ 20 ∧ t.2.1 + c ≠ 21 := by
  rcases h with e | e <;> rw [e] <;> omega
theorem XBd.st {e : Nat × Nat} {c k : Nat} {v : Int32} (ht : is_Hamlet t.2.1) (hB : XBd t T n e w0 w) (hc : c ≤ 9) : XBd t T n e w0 (pw_sI w (t.2.1 + c) k v) := by
  have q := dX_ne ht (c := c) (by omega)
  refine hB.set rfl (ag.sI (dX_in (by omega))) (pw_oth (fun z _ => q.1 z.symm)) (pw_oth (fun z _ => q.1 z.symm)) (fun p hp => hp.ag (ag.sI (S := [t.2.1 + c]) (List.mem_singleton_self _)) (fun z => q.2.1 (List.mem_singleton.mp z).symm)) ?_
  obtain ⟨j, h1, h2⟩ := hB.2.2.2.2.2.2
  exact ⟨j, h1, by rw [pw_oth (fun z _ => by omega)]; exact h2⟩
/-- a store into the draft that its hamlet does not speak of, or that makes another of it -/
theorem XG.st {c k : Nat} {v : Int32} {D' : DS} (ht : is_Hamlet t.2.1) (hG : XG t T n p D w0 w) (hc : c ≤ 11) (hR : RXD (dH D') (dF D') (pw_sI w (t.2.1 + c) k v) t.2.1) (e1 : dP D' = dP D) (e2 : dB D' = dB D) (e3 : dO D' = dO D) (e4 : dK D' = dK D) (e5 : dJ D' = dJ D) : XG t T n p D' w0 (pw_sI w (t.2.1 + c) k v) := by
  have q := dX_ne ht hc
  obtain ⟨hw, ha, hp, hk, f5, f6, hX⟩ := hG
  have a1 : ag [t.2.1 + c] w (pw_sI w (t.2.1 + c) k v) := ag.sI (List.mem_singleton_self _)
  refine ⟨hI hw, ha.tr (ag.sI (dX_in hc)), hp, hk.ag a1 (fun z => q.2.1 (List.mem_singleton.mp z).symm), ?_, ?_, hR, ?_, ?_, ?_⟩
  · rw [pw_oth (fun z _ => q.1 z.symm)]; exact f5
  · rw [pw_oth (fun z _ => q.1 z.symm)]; exact f6
  · rw [e1, e4]; exact hX.2.1
  · rw [e2, e5]; exact hX.2.2.1
  · rw [pw_oth (fun z _ => q.1 z.symm), e3]; exact hX.2.2.2
theorem xPerB {e : Nat × Nat} (hS : XS0 t T n w0) (k : ∀ w', XBd t T n e w0 w' → Q (some (.int 0)) w') :
    (∀ w y j, XBd t T n e w0 w → j < 6 → px_W E mX5_readPerson (d + 9) 0 0 120 [.ref 16, .null] [.int y, .int (nI j), .ref (t.2.1 + 3)] w Q) ∧
    (∀ w y j, XBd t T n e w0 w → j < 6 → px_W E mX5_readPerson (d + 9) 0 0 88 [.ref 16, .int (nI j)] [.int y, .int (nI j), .ref (t.2.1 + 2)] w Q) ∧
    (∀ w y j, XBd t T n e w0 w → j < 6 → px_W E mX5_readPerson (d + 9) 0 0 56 [.ref 16, .int (nI j)] [.int y, .int (nI j), .ref (t.2.1 + 1)] w Q) := by
  have A : ∀ w y j, XBd t T n e w0 w → j < 6 → px_W E mX5_readPerson (d + 9) 0 0 120 [.ref 16, .null] [.int y, .int (nI j), .ref (t.2.1 + 3)] w Q := fun w y j hB hj => by
    refine bX5_readPerson_120 hB.1 hS.2.1 j rfl hj ?_
    have b2 := (hB.st (c := 3) (k := j) (v := y) hS.2.1 (by decide)).st (c := 0) (k := 0) (v := pw_I (pw_sI w (t.2.1 + 3) j y) t.2.1 0 + 1) hS.2.1 (by decide)
    refine bX5_readPerson_134 b2.1 hS.2.1 (tX5_readLineEndB hS b2 (fun w' h' => bX5_readPerson_138 h'.1 hS.2.1 (Or.inl rfl) (k w' h')))
  have B : ∀ w y j, XBd t T n e w0 w → j < 6 → px_W E mX5_readPerson (d + 9) 0 0 88 [.ref 16, .int (nI j)] [.int y, .int (nI j), .ref (t.2.1 + 2)] w Q := fun w y j hB hj => by
    have b2 := hB.st (c := 2) (k := j) (v := y) hS.2.1 (by decide)
    refine bX5_readPerson_88 hB.1 hS.2.1 j rfl hj (fun _ => A _ _ j b2 hj) (fun _ => tX5_readNumberBehindB hS b2 (fun w' h' => bX5_readPerson_116 h'.1 hS.2.1 (A _ _ j h' hj)))
  refine ⟨A, B, fun w y j hB hj => ?_⟩
  have b2 := hB.st (c := 1) (k := j) (v := y) hS.2.1 (by decide)
  exact bX5_readPerson_56 hB.1 hS.2.1 j rfl hj (fun _ => B _ _ j b2 hj) (fun _ => tX5_readNumberBehindB hS b2 (fun w' h' => bX5_readPerson_84 h'.1 hS.2.1 (B _ _ j h' hj)))
theorem WD.dNP {l : List Nat} (hD : WD D) (h6 : aNp (dH D) < 6) (h1 : lwr l) (h2 : l.length ≤ 8) (h3 : fnd (dP D) l (aNp (dH D)) 0 = aNp (dH D)) : WD (dNP D l) := by
  have hno := fnd_no (f := dP D) (l := l) (aNp (dH D)) 0 (by omega)
  have hb : nmOK (dP D) (aNp (dH D)) := ⟨fun i hi => hD.2.1.1.1 i (by have := hD.2.1.2.1; omega), fun i j hi hj => hD.2.1.1.2 i j (by have := hD.2.1.2.1; omega) (by have := hD.2.1.2.1; omega)⟩
  exact ⟨hD.1, ⟨hb.up h1 h2 (fun j hj => hno j (by omega) (by omega)), by show aNp (dH D) ≤ aNp (dH D) + 1; omega, by show aNp (dH D) + 1 ≤ 6; omega⟩, hD.2.2⟩
theorem pNew_r {f : Nat → List Nat} {k q : Nat} (h : pNew T n f k p = .inr q) : tC T n p = 3 ∧ fnd f (tW T n p) k 0 = k ∧ q = tE T n p := by
  unfold pNew at h
  split at h
  · rename_i h1
    split at h
    · rename_i h2; cases h; exact ⟨h1, h2, rfl⟩
    · cases h
  · cases h
theorem pNb_r {word lo hi q a : Nat} (h : pNb T n word lo hi p = .inr (q, a)) : lo ≤ a ∧ a ≤ hi := by
  unfold pNb at h
  split at h
  · cases h
  · split at h
    · split at h
      · cases h
      · cases h; omega
    · cases h
theorem pMay_r {word hi q a : Nat} (h : pMay T n word hi p = .inr (q, a)) : a ≤ hi := by
  unfold pMay at h
  split at h
  · exact (pNb_r h).2
  · cases h; exact Nat.zero_le _
theorem tX5_readPerson (hS : XS0 t T n w0) (hD : WD D) (hF : dF D = 0) (hG : XG t T n p D w0 w) (k1 : ∀ q D', pPer T n D p = .inr (q, D') → ∀ w', XG t T n q D' w0 w' → Q (some (.int 1)) w') (k0 : ∀ e, pPer T n D p = .inl e → ∀ w', XBd t T n e w0 w' → Q (some (.int 0)) w') : px_Call E (d + 9) 0 0 mX5_readPerson [.ref 16] w Q := by
  have ht := hS.2.1
  have hnp := hG.2.2.2.2.2.2.1.np
  have n6 := hD.1.1
  refine eX5_readPerson hG.1 ht (fun z => ?_) (fun z => ?_) <;> rw [hnp] at z
  · have lt6 : aNp (dH D) < 6 := za_lt (b := 6) (by omega) (by decide) z
    have P0 : pPer T n D p = pB (pNew T n (dP D) (aNp (dH D)) (tE T n p)) (fun q => pB (pNb T n 1 0 30 q) (fun a => pB (pMay T n 2 9 a.1) (fun b => pB (pMay T n 3 99 b.1) (fun c => pB (pEn T n c.1) (fun z => .inr (z, dPer D (tW T n (tE T n p)) a.2 b.2 c.2)))))) := if_pos lt6
    rw [hnp]
    refine tX5_adv hS hG (fun w1 g1 _ => bX5_readPerson_26 g1.1 ht (tX5_newP rfl lt6 hS hD g1 (fun q2 h2 w2 g2 _ => ?_) (fun e he w2 b2 => ?_)))
    · obtain ⟨c3, c4, -⟩ := pNew_r h2
      have t3 := tC_3 c3
      have hD2 : WD (dNP D (tW T n (tE T n p))) := hD.dNP lt6 tW_lwr t3.2 c4
      have P1 := P0.trans (pB_r h2)
      refine bX5_readPerson_35 g2.1 ht (fun _ => ?_) (fun z => absurd z (by decide))
      refine tX5_readNumberBehind (x := 1) (lo := 0) (hi := 30) rfl rfl rfl (by decide) (by decide) (by decide) hS hD2 g2 (fun q3 f h3 w3 g3 _ => ?_) (fun e he w3 b3 => ?_)
      · have P2 := P1.trans (pB_r h3)
        have ST : ∀ {w9 : pw_W} {q c : Nat} {v : Int32}, XG t T n q (dNP D (tW T n (tE T n p))) w0 w9 → 1 ≤ c → c ≤ 3 → XG t T n q (dNP D (tW T n (tE T n p))) w0 (pw_sI w9 (t.2.1 + c) (aNp (dH D)) v) := fun g c1 c2 =>
          g.st ht (by omega) (RXD.st g.2.2.2.2.2.2.1 (by omega) (fun _ => Nat.le_refl _) (fun q => by omega) (fun q => by omega) (fun q => by omega) (by omega) (by omega)) rfl rfl rfl rfl rfl
        have C120 : ∀ (w : pw_W) (q3' l q u : Nat), pMay T n 2 9 q3 = .inr (q3', l) → XG t T n q (dNP D (tW T n (tE T n p))) w0 w → pw_I w (t.2.1 + 1) (aNp (dH D)) = nI f → pw_I w (t.2.1 + 2) (aNp (dH D)) = nI l → pMay T n 3 99 q3' = .inr (q, u) → px_W E mX5_readPerson (d + 9) 0 0 120 [.ref 16, .null] [.int (nI u), .int (nI (aNp (dH D))), .ref (t.2.1 + 3)] w Q := fun w q3' l q u hl g F1 F2 hu => by
          have P4 := (P2.trans (pB_r hl)).trans (pB_r hu)
          refine bX5_readPerson_120 g.1 ht _ rfl lt6 ?_
          have g5 := ST (v := nI u) g (c := 3) (by decide) (by decide)
          have e0 : pw_I (pw_sI w (t.2.1 + 3) (aNp (dH D)) (nI u)) t.2.1 0 + 1 = nI (aNp (dH D) + 1) := by
            have : pw_I (pw_sI w (t.2.1 + 3) (aNp (dH D)) (nI u)) t.2.1 0 = nI (aNp (dH D)) := g5.2.2.2.2.2.2.1.np
            rw [this, ← nI_succ]
          rw [e0]
          have rh : RXH (dH D) (pw_sI w (t.2.1 + 3) (aNp (dH D)) (nI u)) t.2.1 := by
            have r5 := g5.2.2.2.2.2.2.1
            rw [show dF (dNP D (tW T n (tE T n p))) = 0 from hF] at r5
            exact r5.to
          have g6 : XG t T n q (dPer D (tW T n (tE T n p)) f l u) w0 (pw_sI (pw_sI w (t.2.1 + 3) (aNp (dH D)) (nI u)) t.2.1 0 (nI (aNp (dH D) + 1))) := by
            refine g5.st (c := 0) (D' := dPer D (tW T n (tE T n p)) f l u) ht (by decide) ?_ rfl rfl rfl rfl rfl
            rw [show dF (dPer D (tW T n (tE T n p)) f l u) = 0 from hF]
            refine RXD.of (rh.addP ?_ ?_ pw_same)
            · rw [pw_oth (by omega)]; exact F1
            · rw [pw_oth (by omega)]; exact F2
          have hf9 := pNb_r h3
          have hl9 := pMay_r hl
          have hu9 := pMay_r hu
          have hD6 : WD (dPer D (tW T n (tE T n p)) f l u) := by
            obtain ⟨⟨x1, x2, x3, x4, x5, x6, x7, x8, x9, x10, x11, x12, x13, x14⟩, y1, y2⟩ := hD2
            refine ⟨⟨by show aNp (dH D) + 1 ≤ 6; omega, x2, x3, x4, x5, x6, x7, fun i hi => ?_, fun i hi => ?_, x10, fun b hb k hk => ?_, x12, x13, x14⟩, ⟨y1.1, Nat.le_refl _, y1.2.2⟩, y2⟩
            · have hi : i < aNp (dH D) + 1 := hi
              show uN (aFm (dH D)) (aNp (dH D)) f i ≤ 30 ∧ uN (aLe (dH D)) (aNp (dH D)) l i ≤ 9 ∧ uN (aLu (dH D)) (aNp (dH D)) u i ≤ 99
              by_cases e : i = aNp (dH D)
              · rw [e, uN_s, uN_s, uN_s]; exact ⟨hf9.2, hl9, hu9⟩
              · rw [uN_o e, uN_o e, uN_o e]; exact x8 i (by show i < aNp (dH D); omega)
            · have := x9 i hi
              exact ⟨Nat.lt_succ_of_lt this.1, Nat.lt_succ_of_lt this.2.1, this.2.2⟩
            · exact Nat.lt_succ_of_lt (x11 b hb k hk)
          refine bX5_readPerson_134 g6.1 ht (tX5_readLineEnd hS hD6 g6 (fun q7 h7 w7 g7 => ?_) (fun e he w7 b7 => ?_))
          · exact bX5_readPerson_138 g7.1 ht (Or.inr rfl) (k1 _ _ (P4.trans (pB_r h7)) w7 g7)
          · exact bX5_readPerson_138 b7.1 ht (Or.inl rfl) (k0 _ (P4.trans (pB_l he)) w7 b7)
        have C88 : ∀ (w : pw_W) (q3' l : Nat), pMay T n 2 9 q3 = .inr (q3', l) → XG t T n q3' (dNP D (tW T n (tE T n p))) w0 w → pw_I w (t.2.1 + 1) (aNp (dH D)) = nI f → px_W E mX5_readPerson (d + 9) 0 0 88 [.ref 16, .int (nI (aNp (dH D)))] [.int (nI l), .int (nI (aNp (dH D))), .ref (t.2.1 + 2)] w Q := fun w q3' l hl g F1 => by
          have P3 := P2.trans (pB_r hl)
          have g4 := ST (v := nI l) g (c := 2) (by decide) (by decide)
          have F1' : pw_I (pw_sI w (t.2.1 + 2) (aNp (dH D)) (nI l)) (t.2.1 + 1) (aNp (dH D)) = nI f := by rw [pw_oth (by omega)]; exact F1
          refine bX5_readPerson_88 g.1 ht _ rfl lt6 (fun z => ?_) (fun z => ?_) <;> rw [g4.2.2.2.1.kw (x := 3) (v := 3) rfl (by decide)] at z
          · exact C120 _ q3' l q3' 0 hl g4 F1' pw_same (if_neg z)
          · have M : pMay T n 3 99 q3' = pNb T n 3 0 99 q3' := if_pos z
            refine tX5_readNumberBehind (x := 3) (lo := 0) (hi := 99) rfl rfl rfl (by decide) (by decide) (by decide) hS hD2 g4 (fun q5 u h5 w5 g5 a5 => ?_) (fun e he w5 b5 => ?_)
            · have nn := dX_ne ht (c := 1) (by decide)
              have nn2 := dX_ne ht (c := 2) (by decide)
              exact bX5_readPerson_116 g5.1 ht (C120 _ q3' l q5 u hl g5 ((a5.I (fun z => nn.2.1 (List.mem_singleton.mp z)) _).trans F1') ((a5.I (fun z => nn2.2.1 (List.mem_singleton.mp z)) _).trans pw_same) (M.trans h5))
            · exact bX5_readPerson_116 b5.1 ht ((xPerB hS (k0 e (P3.trans (pB_l (M.trans he))))).1 w5 _ _ b5 lt6)
        have g4 := ST (v := nI f) g3 (c := 1) (by decide) (by decide)
        refine bX5_readPerson_56 g3.1 ht _ rfl lt6 (fun z => ?_) (fun z => ?_) <;> rw [g4.2.2.2.1.kw (x := 2) (v := 2) rfl (by decide)] at z
        · exact C88 _ q3 0 (if_neg z) g4 pw_same
        · have M : pMay T n 2 9 q3 = pNb T n 2 0 9 q3 := if_pos z
          refine tX5_readNumberBehind (x := 2) (lo := 0) (hi := 9) rfl rfl rfl (by decide) (by decide) (by decide) hS hD2 g4 (fun q5 u h5 w5 g5 a5 => ?_) (fun e he w5 b5 => ?_)
          · have nn := dX_ne ht (c := 1) (by decide)
            exact bX5_readPerson_84 g5.1 ht (C88 _ q5 u (M.trans h5) g5 ((a5.I (fun z => nn.2.1 (List.mem_singleton.mp z)) _).trans pw_same))
          · exact bX5_readPerson_84 b5.1 ht ((xPerB hS (k0 e (P2.trans (pB_l (M.trans he))))).2.1 w5 _ _ b5 lt6)
      · exact (xPerB hS (k0 e (P1.trans (pB_l he)))).2.2 w3 _ _ b3 lt6
    · exact bX5_readPerson_35 b2.1 ht (fun z => absurd rfl z) (fun _ => k0 e (P0.trans (pB_l he)) w2 b2)
  · have ge6 : ¬ aNp (dH D) < 6 := fun h => z (nI_lt (b := 6) h (by decide))
    exact tX5_refuse hS hD hG (fun w1 b1 _ => bX5_readPerson_18 b1.1 ht (Or.inl rfl) (k0 _ (if_neg ge6) w1 b1))
end XPA
