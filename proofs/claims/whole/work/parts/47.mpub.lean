/-! the reference's calls that change nothing -/
section MP
variable {E : px_E} {d : Nat} {w : pw_W} {Q : Option Value → pw_W → Prop} {t : ct_T} {g : GG}
theorem RM.isP (hg : WG g) (hR : RM g w) (x : Int32) : pX10_isPerson w x ↔ V (aNp (gH g)) x := by
  show (¬ x < 0 ∧ ¬ pw_I w 61 51 - 1 < x) ↔ _
  rw [hR.1.1.1]
  exact V_pred (by have := hg.1.1; omega)
theorem RM.isM (hg : WG g) (hR : RM g w) (x : Int32) : pX10_isMeeting w x ↔ V (aNm (gH g)) x := by
  show (¬ x < 0 ∧ ¬ pw_I w 61 52 - 1 < x) ↔ _
  rw [hR.1.1.2.1]
  exact V_pred (by have := hg.1.2.1; omega)
theorem RM.isB (hg : WG g) (hR : RM g w) (x : Int32) : pX10_isBrother w x ↔ V (aNb (gH g)) x := by
  show (¬ x < 0 ∧ ¬ pw_I w 61 53 - 1 < x) ↔ _
  rw [hR.1.1.2.2.1]
  exact V_pred (by have := hg.1.2.2.1; omega)
theorem isI {n : Nat} (hn : n + 1 < 2 ^ 31) (x : Int32) : pX10_isIn x 0 (nI n) ↔ V (n + 1) x := V_le hn
theorem isI1 (x : Int32) : pX10_isIn x 0 1 ↔ z1 x := z1_in x
theorem RM.k {S : List Nat} {w' : pw_W} (hg : WG g) (hR : RM g w) (ha : ag S w w') (hs : ∀ a ∈ S, a ∈ msc) : RM g w' ∧ agM w w' := ⟨hR.scr hg ha hs, ha.m (fun a h => msc_m a (hs a h))⟩
theorem tX10_fault {x : Int32} (hw : w.1 = cs t) (hR : RM g w) (k : ∀ w', RM g w' → agM w w' → Q (some (.int (fFault g x))) w') : px_Call E (d + 20) 0 0 mX10_fault [.ref 61, .int x] w Q := by
  have kk := k w hR agM.rf
  have hF := hR.2.2.2.2.2.2.2.2
  unfold fFault at kk
  refine eX10_fault hw (fun a b => bX10_fault_24 hw ?_) (fun a b => bX10_fault_24 hw ?_) (fun a => bX10_fault_24 hw ?_)
  · rw [if_neg a, if_neg b] at kk; exact kk
  · rw [if_neg a, if_pos b, ← hF.2.2.1] at kk; exact kk
  · rw [if_pos a, ← hF.2.1] at kk; exact kk
theorem RM.fill (hw : w.1 = cs t) (hg : WG g) (hR : RM g w) (k : ∀ w', w'.1 = cs t → RM g w' → ag [69, 70, 90] w w' → RMS (gH g) (gS g) w' 90 → Q none w') : px_Call E (d + 1) 0 0 mX10_fill [.ref 61] w Q :=
  tX10_fillS hw hg.1.1 hR.2.1 (fun w' a' S' => k w' (a'.1.trans hw) (hR.scr hg a' (by decide)) (a'.mono (by simp)) S')
theorem tX10_person {x y : Int32} (hw : w.1 = cs t) (hg : WG g) (hR : RM g w) (k : ∀ w', RM g w' → agM w w' → Q (some (.int (fPerson g x y))) w') : px_Call E (d + 20) 0 0 mX10_person [.ref 61, .int x, .int y] w Q := by
  have np := hg.1.1
  unfold fPerson at k
  refine eX10_person hw (fun a => ?_) (fun a => by have := k w hR agM.rf; rw [if_neg (fun z => a ((hR.isP hg x).mpr z))] at this; exact this)
  have va := (hR.isP hg x).mp a
  rw [if_pos va] at k
  obtain ⟨j, hj, rfl, nj⟩ := V_of (by omega) va
  rw [nj] at k
  refine RM.fill hw hg hR (fun w' hw' R' a' S' => ?_)
  have kk := k w' R' (a'.m (by decide))
  refine bX10_person_14 hw' (fun b => ?_) (fun b c => ?_) (fun b c e => ?_) (fun b c e f => ?_) (fun b c e f => ?_)
  · rw [if_pos b, ← S'.2.1 j hj] at kk
    exact bX10_person_44 hw' j rfl (by omega) kk
  · rw [if_neg b, if_pos c, ← (R'.1.2.1 j hj).2.1] at kk
    exact bX10_person_51 hw' j rfl (by omega) kk
  · rw [if_neg b, if_neg c, if_pos e, ← S'.1 j hj] at kk
    exact bX10_person_58 hw' (6 + j) (six j) (by omega) kk
  · rw [if_neg b, if_neg c, if_neg e, if_pos f] at kk
    refine bX10_person_68 hw' (6 + j) (six j) (by omega) ?_
    have ab := pMab R'.1 S' hg.1 hg.s.1 hj (nI j)
    rw [truth_jb]
    by_cases z : aBd (gH g) ≤ sL (gS g) j
    · rw [jb_t z] at kk
      rw [jb_t (ab.mpr z)]
      exact kk
    · rw [jb_f z] at kk
      rw [jb_f (fun q => z (ab.mp q))]
      exact kk
  · rw [if_neg b, if_neg c, if_neg e, if_neg f] at kk; exact kk
theorem tX10_meeting {x y : Int32} (hw : w.1 = cs t) (hg : WG g) (hR : RM g w) (k : ∀ w', RM g w' → agM w w' → Q (some (.int (fMeeting g x y))) w') : px_Call E (d + 20) 0 0 mX10_meeting [.ref 61, .int x, .int y] w Q := by
  have nm := hg.1.2.1
  have kk := k w hR agM.rf
  unfold fMeeting at kk
  have ok : pX10_isMeeting w x → ∃ j, j < aNm (gH g) ∧ x = nI j ∧ N x = j := fun h => V_of (by omega) ((hR.isM hg x).mp h)
  refine eX10_meeting hw (fun a b => ?_) (fun a b c => ?_) (fun a b c e => ?_) (fun a b c e f => ?_) (fun a b c e f => ?_) (fun a => ?_)
  · rw [if_pos ((hR.isM hg x).mp a), if_pos b] at kk
    obtain ⟨j, hj, rfl, nj⟩ := ok a
    rw [nj, ← (hR.1.2.2.1 j hj).1] at kk
    exact bX10_meeting_40 hw j rfl (by omega) kk
  · rw [if_pos ((hR.isM hg x).mp a), if_neg b, if_pos c] at kk
    obtain ⟨j, hj, rfl, nj⟩ := ok a
    rw [nj, ← (hR.1.2.2.1 j hj).2.1] at kk
    exact bX10_meeting_47 hw j rfl (by omega) kk
  · rw [if_pos ((hR.isM hg x).mp a), if_neg b, if_neg c, if_pos e] at kk
    obtain ⟨j, hj, rfl, nj⟩ := ok a
    rw [nj, ← (hR.1.2.2.1 j hj).2.2] at kk
    exact bX10_meeting_54 hw j rfl (by omega) kk
  · rw [if_pos ((hR.isM hg x).mp a), if_neg b, if_neg c, if_neg e, if_pos f] at kk
    obtain ⟨j, hj, rfl, nj⟩ := ok a
    refine bX10_meeting_61 hw ?_
    have b5 := hg.s.1.2.1
    rw [hR.2.1.2.2.1, za_tb (by omega) (by omega), za_tbit]
    rw [nj] at kk
    cases hb : (sB (gS g)).testBit j with
    | false => rw [hb] at kk; exact kk
    | true => rw [hb] at kk; exact kk
  · rw [if_pos ((hR.isM hg x).mp a), if_neg b, if_neg c, if_neg e, if_neg f] at kk; exact kk
  · rw [if_neg (fun z => a ((hR.isM hg x).mpr z))] at kk; exact kk
theorem tX10_brother {x y : Int32} (hw : w.1 = cs t) (hg : WG g) (hR : RM g w) (k : ∀ w', RM g w' → agM w w' → Q (some (.int (fBrother g x y))) w') : px_Call E (d + 20) 0 0 mX10_brother [.ref 61, .int x, .int y] w Q := by
  have nb := hg.1.2.2.1
  have kk := k w hR agM.rf
  unfold fBrother at kk
  have ok : pX10_isBrother w x → ∃ j, j < aNb (gH g) ∧ x = nI j ∧ N x = j := fun h => V_of (by omega) ((hR.isB hg x).mp h)
  refine eX10_brother hw (fun a b c => ?_) (fun a b c => ?_) (fun a b => ?_) (fun a => ?_)
  · rw [if_pos ((hR.isB hg x).mp a), if_neg b, if_neg c] at kk; exact bX10_brother_40 hw kk
  · rw [if_pos ((hR.isB hg x).mp a), if_neg b, if_pos c] at kk
    obtain ⟨j, hj, rfl, nj⟩ := ok a
    rw [nj, ← (hR.1.2.2.2.1 j hj).2] at kk
    exact bX10_brother_30 hw j rfl (by omega) (bX10_brother_40 hw kk)
  · rw [if_pos ((hR.isB hg x).mp a), if_pos b] at kk
    obtain ⟨j, hj, rfl, nj⟩ := ok a
    rw [nj, ← (hR.1.2.2.2.1 j hj).1] at kk
    exact bX10_brother_16 hw j rfl (by omega) (bX10_brother_40 hw kk)
  · rw [if_neg (fun z => a ((hR.isB hg x).mpr z))] at kk; exact bX10_brother_40 hw kk
theorem tX10_round {x y : Int32} (hw : w.1 = cs t) (hg : WG g) (hR : RM g w) (k : ∀ w', RM g w' → agM w w' → Q (some (.int (fRound g x y))) w') : px_Call E (d + 20) 0 0 mX10_round [.ref 61, .int x, .int y] w Q := by
  have kk := k w hR agM.rf
  have nb := hg.1.2.2.1
  unfold fRound at kk
  have no : ¬ (V (aNb (gH g)) x ∧ V (aRs (gH g) (N x)) y) → px_W E mX10_round (d + 20) 0 0 38 [.null, .null, .null] [] w Q := fun z => bX10_round_38 hw (bX10_round_39 hw (by rw [if_neg z] at kk; exact kk))
  refine eX10_round hw (fun a => no (fun z => a ((hR.isB hg x).mpr z.1))) (fun a => ?_)
  have vb := (hR.isB hg x).mp a
  obtain ⟨j, hj, rfl, nj⟩ := V_of (by omega) vb
  obtain ⟨-, c4, c5⟩ := hg.1.2.2.2.2.2.2.2.2.2.1 j hj
  have vp : pX10_isIn y 0 (pw_I w 88 j - 1) ↔ V (aRs (gH g) j) y := by
    rw [(hR.1.2.2.2.1 j hj).2]
    exact V_pred (by omega)
  refine bX10_round_8 hw j rfl (by omega) (fun c => no (fun z => ?_)) (fun c => ?_)
  · rw [nj] at z; exact c (vp.mpr z.2)
  · have vy := vp.mp c
    rw [if_pos ⟨vb, by rw [nj]; exact vy⟩] at kk
    obtain ⟨i, hi, rfl, ni⟩ := V_of (by omega) vy
    refine bX10_round_24 hw (6 * j + i) (by rw [show (6 : Int32) = nI 6 from rfl, pk_mul, nI_add]) (by omega) (bX10_round_39 hw ?_)
    rw [nj, ni, ← hR.2.2.1 j hj i hi] at kk
    exact kk
theorem tX10_touch {x y : Int32} (hw : w.1 = cs t) (hg : WG g) (hR : RM g w) (k : ∀ w', RM g w' → agM w w' → Q (some (.int (fTouch g x y))) w') : px_Call E (d + 20) 0 0 mX10_touch [.ref 61, .int x, .int y] w Q := by
  have nm := hg.1.2.1
  have np := hg.1.1
  have q13 := hg.1.2.2.2.2.2.2.2.2.2.2.2.2
  unfold fTouch at k
  have no : ¬ (V (aNm (gH g)) x ∧ z1 y) → px_W E mX10_touch (d + 20) 0 0 17 [.null, .null, .null, .null, .null] [] w Q := fun z => bX10_touch_17 hw (by have := k w hR agM.rf; rw [if_neg z] at this; exact this)
  refine eX10_touch hw (fun a => no (fun z => a ((hR.isM hg x).mpr z.1))) (fun a b => ?_) (fun a b => no (fun z => b ((isI1 y).mpr z.2)))
  have va := (hR.isM hg x).mp a
  rw [if_pos ⟨va, (isI1 y).mp b⟩] at k
  obtain ⟨j, hj, rfl, nj⟩ := V_of (by omega) va
  obtain ⟨m1, m2, -⟩ := hg.1.2.2.2.2.2.2.2.2.1 j hj
  rw [nj] at k
  refine RM.fill hw hg hR (fun w1 hw1 R1 a1 S1 => ?_)
  obtain ⟨f1, f2, -⟩ := R1.1.2.2.1 j hj
  have fin : ∀ p o, p < aNp (gH g) → o < aNp (gH g) → (∀ w', RM g w' → agM w w' → Q (some (.int (nI (fTo g p o)))) w') → px_W E mX10_touch (d + 20) 0 0 62 [.ref 61, .null, .null, .int (nI p), .null] [.int (nI o)] w1 Q := by
    intro p o hp ho kk
    refine bX10_touch_62 hw1 p rfl (by omega) o rfl (by omega) (6 + p) (six p) (by omega) ?_
    rw [S1.2.1 p hp, S1.2.1 o ho, S1.1 p hp]
    refine tX10_touchOf hw1 R1.1.2.2.2.2 q13.2 q13.1 _ _ _ _ S1.2.2.2.1 (fun w2 a2 => ?_)
    exact bX10_touch_90 (a2.1.trans hw1) (kk w2 (R1.scr hg a2 (by decide)) ((a1.m (by decide)).tr (a2.m (by decide))))
  refine bX10_touch_23 hw1 (fun c => ?_) (fun c => ?_)
  · rw [if_neg c] at k
    refine bX10_touch_36 hw1 j rfl (by omega) (bX10_touch_42 hw1 (fun _ => bX10_touch_56 hw1 j rfl (by omega) ?_) (fun z => absurd z c))
    rw [f1, f2]
    exact fin _ _ m2 m1 k
  · rw [if_pos c] at k
    refine bX10_touch_27 hw1 j rfl (by omega) (bX10_touch_42 hw1 (fun z => absurd c z) (fun _ => bX10_touch_47 hw1 j rfl (by omega) ?_))
    rw [f1, f2]
    exact fin _ _ m1 m2 k
theorem tX10_abed (hw : w.1 = cs t) (hg : WG g) (hR : RM g w) (k : ∀ w', RM g w' → agM w w' → Q (some (.int (fAbed g))) w') : px_Call E (d + 20) 0 0 mX10_abed [.ref 61] w Q := by
  refine eX10_abed hw (RM.fill hw hg hR (fun w1 hw1 R1 a1 S1 => bX10_abed_4 hw1 ?_))
  exact tX10_abedOnes hw1 R1.1 S1 hg.1 hg.s.1 (bX10_abed_8 hw1 (k w1 R1 (a1.m (by decide))))
theorem RM.day {fl : Bool} {s : aS} (hw : w.1 = cs t) (hg : WG g) (hR : RM g w) (hS : RMS (gH g) s w 90) (hs : aWS (gH g) s) (k : ∀ w', w'.1 = cs t → RM g w' → ag [69, 70, 90] w w' → RMS (gH g) (aDay (gH g) (aRo (gH g)) fl s) w' 90 → Q (some (.int (nI (aMet (gH g) s)))) w') : px_Call E (d + 5) 0 0 mX10_goDay [.ref 61, .int (jb (fl = true))] w Q :=
  tX10_goDay (fl := fl) hw hR.1 hS hR.2.2.1 hg.1 hs hg.1.ro (fun w' a' S' => k w' (a'.1.trans hw) (hR.scr hg a' (by decide)) a' S')
theorem tX10_will {x y z : Int32} (hw : w.1 = cs t) (hg : WG g) (hR : RM g w) (k : ∀ w', RM g w' → agM w w' → Q (some (.int (fWill g x y z))) w') : px_Call E (d + 20) 0 0 mX10_will [.ref 61, .int x, .int y, .int z] w Q := by
  have np := hg.1.1
  have hd := hg.s.2
  unfold fWill at k
  have no : ¬ (V (aNp (gH g)) x ∧ V 61 y ∧ z1 z) → px_W E mX10_will (d + 20) 0 0 27 [.null, .null, .null, .null, .null] [] w Q := fun q => bX10_will_27 hw (by have := k w hR agM.rf; rw [if_neg q] at this; exact this)
  refine eX10_will hw (fun a => no (fun q => a ((hR.isP hg x).mpr q.1))) (fun a b => no (fun q => b ((isI (n := 60) (by decide) y).mpr q.2.1))) (fun a b c => ?_) (fun a b c => no (fun q => c ((isI1 z).mpr q.2.2)))
  have va := (hR.isP hg x).mp a
  have vb := (isI (n := 60) (by decide) y).mp b
  rw [if_pos ⟨va, vb, (isI1 z).mp c⟩] at k
  obtain ⟨p, hp, rfl, ep⟩ := V_of (by omega) va
  obtain ⟨n, hn, rfl, en⟩ := V_of (by decide) vb
  rw [ep, en] at k
  refine RM.fill hw hg hR (fun w1 hw1 R1 a1 S1 => bX10_will_33 hw1 ?_)
  have go : ∀ fl : Bool, (z = 1 ↔ fl = true) → (∀ w', RM g w' → agM w w' → Q (some (.int (nI (sL (gD g fl n) p)))) w') → px_W E mX10_will (d + 20) 0 0 36 [.ref 61, .int (nI p), .int (nI n), .int z, .int 0] [] w1 Q := by
    intro fl hz kk
    have key : ∀ i, i ≤ n → ∀ w2, w2.1 = cs t → RM g w2 → ag [69, 70, 90] w w2 → RMS (gH g) (gD g fl i) w2 90 → px_W E mX10_will (d + 20) 0 0 36 [.ref 61, .int (nI p), .int (nI n), .int z, .int (nI i)] [] w2 Q := by
      refine za_up n _ (fun i hi ih => ?_)
      intro w2 hw2 R2 a2 S2
      obtain ⟨W2, D2⟩ := aWS.days (ro := aRo (gH g)) (fl := fl) hg.1 hg.s.1 i (by omega)
      have nxt : ∀ b : Int32, b = jb (fl = true) → i < n → px_W E mX10_will (d + 20) 0 0 53 [.ref 61, .int (nI p), .int (nI n), .int z, .int (nI i)] [.int b, .ref 61] w2 Q := by
        intro b hb hlt
        subst hb
        refine bX10_will_53 hw2 (RM.day hw2 hg R2 S2 W2 (fun w3 hw3 R3 a3 S3 => bX10_will_56 hw3 ?_))
        rw [nI_1]
        exact ih hlt w3 hw3 R3 (a2.tr a3) S3
      refine bX10_will_36 hw2 (fun q => ?_) (fun q u => ?_) (fun q u => ?_)
      · have : i = n := by have := za_le (by omega) (by omega) q; omega
        subst this
        refine bX10_will_63 hw2 (6 + p) (six p) (by omega) ?_
        rw [S2.1 p hp]
        exact kk w2 R2 (a2.m (by decide))
      · have hlt : i < n := za_nle (by omega) (by omega) q
        exact nxt 0 (jb_f (fun v => u (hz.mpr v))).symm hlt
      · have hlt : i < n := za_nle (by omega) (by omega) q
        exact nxt 1 (jb_t (hz.mp u)).symm hlt
    exact key 0 (Nat.zero_le _) w1 hw1 R1 a1 S1
  by_cases e : z = 1
  · rw [if_pos e] at k
    exact go true ⟨fun _ => rfl, fun _ => e⟩ k
  · rw [if_neg e] at k
    exact go false ⟨fun q => absurd q e, fun q => by cases q⟩ k
theorem tX10_firm {x y : Int32} (hw : w.1 = cs t) (hg : WG g) (hR : RM g w) (k : ∀ w', RM g w' → agM w w' → Q (some (.int (fFirm g x y))) w') : px_Call E (d + 20) 0 0 mX10_firm [.ref 61, .int x, .int y] w Q := by
  have np := hg.1.1
  have hd := hg.s.2
  unfold fFirm at k
  have no : ¬ (V (aNp (gH g)) x ∧ V 61 y) → px_W E mX10_firm (d + 20) 0 0 18 [.null, .null, .null, .null] [] w Q := fun q => bX10_firm_18 hw (by have := k w hR agM.rf; rw [if_neg q] at this; exact this)
  refine eX10_firm hw (fun a => no (fun q => a ((hR.isP hg x).mpr q.1))) (fun a b => ?_) (fun a b => no (fun q => b ((isI (n := 60) (by decide) y).mpr q.2)))
  have va := (hR.isP hg x).mp a
  have vb := (isI (n := 60) (by decide) y).mp b
  rw [if_pos ⟨va, vb⟩] at k
  obtain ⟨p, hp, rfl, ep⟩ := V_of (by omega) va
  obtain ⟨n, hn, rfl, en⟩ := V_of (by decide) vb
  rw [ep, en] at k
  refine RM.fill hw hg hR (fun w1 hw1 R1 a1 S1 => bX10_firm_24 hw1 ?_)
  have key : ∀ i, i ≤ n → ∀ w2, w2.1 = cs t → RM g w2 → ag [69, 70, 90] w w2 → RMS (gH g) (gD g false i) w2 90 → px_W E mX10_firm (d + 20) 0 0 26 [.ref 61, .int (nI p), .int (nI n), .int (nI i)] [] w2 Q := by
    refine za_up n _ (fun i hi ih => ?_)
    intro w2 hw2 R2 a2 S2
    obtain ⟨W2, D2⟩ := aWS.days (ro := aRo (gH g)) (fl := false) hg.1 hg.s.1 i (by omega)
    refine bX10_firm_26 hw2 (fun q => ?_) (fun q => ?_)
    · have : i = n := by have := za_le (by omega) (by omega) q; omega
      subst this
      refine bX10_firm_43 hw2 p rfl (by omega) ?_
      rw [S2.2.1 p hp]
      exact k w2 R2 (a2.m (by decide))
    · have hlt : i < n := za_nle (by omega) (by omega) q
      refine RM.day (fl := false) hw2 hg R2 S2 W2 (fun w3 hw3 R3 a3 S3 => bX10_firm_36 hw3 ?_)
      rw [nI_1]
      exact ih hlt w3 hw3 R3 (a2.tr a3) S3
  exact key 0 (Nat.zero_le _) w1 hw1 R1 a1 S1
theorem RM.hurt {n : Nat} {s : aS} (hw : w.1 = cs t) (hg : WG g) (hR : RM g w) (hS : RMS (gH g) s w 90) (hs : aWS (gH g) s) (hn : sD s + n < 5000) (k : ∀ w', w'.1 = cs t → RM g w' → ag [69, 70, 90] w w' → Q (some (.int (nI (aHurt (gH g) (aDays (gH g) (aRo (gH g)) false n s))))) w') : px_Call E (d + 6) 0 0 mX10_hurtBehind [.ref 61, .int (nI n)] w Q :=
  tX10_hurtBehind hw hR.1 hS hR.2.2.1 hg.1 hs hg.1.ro hn (fun w' a' _ => k w' (a'.1.trans hw) (hR.scr hg a' (by decide)) a')
theorem tX10_hurt {x : Int32} (hw : w.1 = cs t) (hg : WG g) (hR : RM g w) (k : ∀ w', RM g w' → agM w w' → Q (some (.int (fHurt g x))) w') : px_Call E (d + 20) 0 0 mX10_hurt [.ref 61, .int x] w Q := by
  have hd := hg.s.2
  unfold fHurt at k
  refine eX10_hurt hw (fun a => ?_) (fun a => by have := k w hR agM.rf; rw [if_neg (fun q => a ((isI (n := 60) (by decide) x).mpr q))] at this; exact this)
  have va := (isI (n := 60) (by decide) x).mp a
  rw [if_pos va] at k
  obtain ⟨n, hn, rfl, en⟩ := V_of (by decide) va
  rw [en] at k
  refine RM.fill hw hg hR (fun w1 hw1 R1 a1 S1 => bX10_hurt_16 hw1 (RM.hurt hw1 hg R1 S1 hg.s.1 (by omega) (fun w2 hw2 R2 a2 => ?_)))
  exact bX10_hurt_21 hw2 (k w2 R2 ((a1.tr a2).m (by decide)))
theorem tX10_felled {x : Int32} (hw : w.1 = cs t) (hg : WG g) (hR : RM g w) (k : ∀ w', RM g w' → agM w w' → Q (some (.int (fFelled g x))) w') : px_Call E (d + 20) 0 0 mX10_felled [.ref 61, .int x] w Q := by
  have np := hg.1.1
  have hd := hg.s.2
  unfold fFelled at k
  refine eX10_felled hw (fun a => ?_) (fun a => by have := k w hR agM.rf; rw [if_neg (fun q => a ((hR.isP hg x).mpr q))] at this; exact this)
  have va := (hR.isP hg x).mp a
  rw [if_pos va] at k
  obtain ⟨p, hp, rfl, ep⟩ := V_of (by omega) va
  rw [ep] at k
  refine RM.fill hw hg hR (fun w1 hw1 R1 a1 S1 => bX10_felled_14 hw1 ?_)
  have key : ∀ i, i ≤ 61 → ∀ w2, w2.1 = cs t → RM g w2 → ag [69, 70, 90] w w2 → RMS (gH g) (gD g false i) w2 90 → (aTill (gH g) (aRo (gH g)) (2 ^ p) 60 0 (gS g) = if i = 61 then -1 else aTill (gH g) (aRo (gH g)) (2 ^ p) (60 - i) i (gD g false i)) → px_W E mX10_felled (d + 20) 0 0 16 [.ref 61, .int (nI p), .int (nI i)] [] w2 Q := by
    refine za_up 61 _ (fun i hi ih => ?_)
    intro w2 hw2 R2 a2 S2 e2
    obtain ⟨W2, D2⟩ := aWS.days (ro := aRo (gH g)) (fl := false) hg.1 hg.s.1 i (by omega)
    refine bX10_felled_16 hw2 (fun q => ?_) (fun q => ?_)
    · have : i = 61 := by have := za_lt (a := 60) (by omega) (by omega) q; omega
      rw [if_pos this] at e2
      have kk := k w2 R2 (a2.m (by decide))
      rw [e2] at kk
      exact kk
    · have hlt : i ≤ 60 := za_nlt (a := 60) (by omega) (by omega) q
      rw [if_neg (by omega)] at e2
      have ab := pMab R2.1 S2 hg.1 W2 hp (nI p)
      have ao := aAb_one (h := gH g) (s := gD g false i) hp
      refine bX10_felled_22 hw2 (6 + p) (six p) (by omega) (fun z => ?_) (fun z => ?_) <;> rw [ab] at z
      · refine RM.day (fl := false) hw2 hg R2 S2 W2 (fun w3 hw3 R3 a3 S3 => bX10_felled_37 hw3 ?_)
        rw [nI_1]
        refine ih (by omega) w3 hw3 R3 (a2.tr a3) S3 ?_
        rw [e2]
        by_cases y : i = 60
        · subst y
          rw [if_pos rfl]
          show (if _ then _ else _) = _
          rw [if_pos (ao.mpr z)]
        · rw [if_neg (by omega), show 60 - i = (60 - (i + 1)) + 1 by omega]
          show (if _ then _ else _) = _
          rw [if_pos (ao.mpr z)]
          rfl
      · have kk := k w2 R2 (a2.m (by decide))
        rw [e2] at kk
        have : aTill (gH g) (aRo (gH g)) (2 ^ p) (60 - i) i (gD g false i) = nI i := by
          cases hni : 60 - i with
          | zero => show (if _ then _ else _) = _; rw [if_neg (fun u => ao.mp u z)]
          | succ j => show (if _ then _ else _) = _; rw [if_neg (fun u => ao.mp u z)]
        rw [this] at kk
        exact kk
  exact key 0 (by omega) w1 hw1 R1 a1 S1 (by rw [if_neg (by decide)]; rfl)
theorem RM.peaceful {m n : Nat} {s : aS} (hw : w.1 = cs t) (hg : WG g) (hR : RM g w) (hS : RMS (gH g) s w 90) (hs : aWS (gH g) s) (hn : sD s + n + 1 < 5000) (k : ∀ w', w'.1 = cs t → RM g w' → ag [69, 70, 90] w w' → Q (some (.int (jb (aTill (gH g) (aRo (gH g)) m n 0 s = -1)))) w') : px_Call E (d + 6) 0 0 mX10_isPeace [.ref 61, .int (nI m), .int (nI n)] w Q :=
  tX10_isPeace hw hR.1 hS hR.2.2.1 hg.1 hs hn (fun w' a' => k w' (a'.1.trans hw) (hR.scr hg a' (by decide)) a')
theorem tX10_grip {x y : Int32} (hw : w.1 = cs t) (hg : WG g) (hR : RM g w) (k : ∀ w', RM g w' → agM w w' → Q (some (.int (fGrip g x y))) w') : px_Call E (d + 20) 0 0 mX10_grip [.ref 61, .int x, .int y] w Q := by
  have np := hg.1.1
  have hd := hg.s.2
  unfold fGrip at k
  have no : ¬ (V (aNp (gH g)) x ∧ V 31 y) → px_W E mX10_grip (d + 20) 0 0 18 [.null, .null, .null, .null] [] w Q := fun q => bX10_grip_18 hw (by have := k w hR agM.rf; rw [if_neg q] at this; exact this)
  refine eX10_grip hw (fun a => no (fun q => a ((hR.isP hg x).mpr q.1))) (fun a b => ?_) (fun a b => no (fun q => b ((isI (n := 30) (by decide) y).mpr q.2)))
  have va := (hR.isP hg x).mp a
  have vb := (isI (n := 30) (by decide) y).mp b
  rw [if_pos ⟨va, vb⟩] at k
  obtain ⟨p, hp, rfl, ep⟩ := V_of (by omega) va
  obtain ⟨n, hn, rfl, en⟩ := V_of (by decide) vb
  rw [ep, en] at k
  have key : ∀ i, i ≤ 31 → ∀ w2, w2.1 = cs t → RM g w2 → ag [69, 70, 90] w w2 → aGr (gH g) (aRo (gH g)) p n (gS g) 31 0 = aGr (gH g) (aRo (gH g)) p n (gS g) (31 - i) i → px_W E mX10_grip (d + 20) 0 0 22 [.ref 61, .int (nI p), .int (nI n), .int (nI i)] [] w2 Q := by
    refine za_up 31 _ (fun i hi ih => ?_)
    intro w2 hw2 R2 a2 e2
    refine bX10_grip_22 hw2 (fun q => ?_) (fun q => ?_)
    · have : i = 31 := by have := za_lt (a := 30) (by omega) (by omega) q; omega
      subst this
      have kk := k w2 R2 (a2.m (by decide))
      rw [e2] at kk
      exact kk
    · have hlt : i ≤ 30 := za_nlt (a := 30) (by omega) (by omega) q
      rw [show 31 - i = (31 - (i + 1)) + 1 by omega] at e2
      refine RM.fill hw2 hg R2 (fun w3 hw3 R3 a3 S3 => ?_)
      refine bX10_grip_32 hw3 p rfl (by omega) ?_
      rw [za_bit1 (by omega)]
      have A4 : ag [69, 70, 90] w3 (pw_sI w3 90 p (nI i)) := ag.sI (by decide)
      refine RM.peaceful (s := sSetF (gS g) p i) (hI hw3) hg (R3.scr hg A4 (by decide)) (S3.setF (p := p) (by omega) rfl) (hg.s.1.setF hlt) (show sD (gS g) + n + 1 < 5000 by omega) (fun w5 hw5 R5 a5 => ?_)
      have A5 := a2.tr (a3.tr (A4.tr a5))
      refine bX10_grip_47 hw5 (fun z => ?_) (fun z => ?_)
      · rw [nI_1]
        refine ih (by omega) w5 hw5 R5 A5 ?_
        rw [e2]
        show (if _ then _ else _) = _
        rw [if_neg (jb_eq0.mp z)]
      · have kk := k w5 R5 (A5.m (by decide))
        have e3 : aGr (gH g) (aRo (gH g)) p n (gS g) (31 - (i + 1) + 1) i = nI i := by
          show (if _ then _ else _) = _
          rw [if_pos (Classical.not_not.mp (fun y => z (jb_eq0.mpr y)))]
        rw [e2, e3] at kk
        exact kk
  exact key 0 (by omega) w hw hR ag.rf rfl
/-- the best so far, as the reference has it -/
abbrev MBs (o : Option (Nat × Nat)) (b l : Int32) : Prop := match o with
  | none => b = -1 ∧ l = 1000000
  | some q => b = nI q.1 ∧ l = nI q.2
theorem MBs.end {o : Option (Nat × Nat)} {b l z : Int32} (h : MBs o b l) (ho : ∀ q, o = some q → q.1 < 2 ^ 31 ∧ q.2 < 2 ^ 31) : (0 ≤ b → ¬ z = 0 → fCh o z = l) ∧ (0 ≤ b → z = 0 → fCh o z = b) ∧ (¬ 0 ≤ b → fCh o z = -1) := by
  cases o with
  | none =>
    have h : b = -1 ∧ l = 1000000 := h
    rw [h.1]
    exact ⟨fun q => absurd q (by decide), fun q => absurd q (by decide), fun _ => rfl⟩
  | some q =>
    have h : b = nI q.1 ∧ l = nI q.2 := h
    rw [h.1, h.2]
    exact ⟨fun _ q => if_neg q, fun _ q => if_pos q, fun u => absurd (nI_pos' (ho q rfl).1) u⟩
theorem MBs.step {o : Option (Nat × Nat)} {b l : Int32} {k v : Nat} (h : MBs o b l) (ho : ∀ q, o = some q → q.1 < 2 ^ 31 ∧ q.2 < 2 ^ 31) (hv : v < 1000) : (nI v < l → MBs (aBs1 o k v) (nI k) (nI v)) ∧ (¬ nI v < l → MBs (aBs1 o k v) b l) := by
  cases o with
  | none =>
    have h : b = -1 ∧ l = 1000000 := h
    rw [h.2]
    exact ⟨fun _ => ⟨rfl, rfl⟩, fun q => absurd ((nI_ltI (b := 1000000) (by omega) (by omega)).mpr (by omega)) q⟩
  | some q =>
    have h' : b = nI q.1 ∧ l = nI q.2 := h
    have g := ho q rfl
    rw [h'.2]
    constructor
    · intro z
      have z := za_lt (by omega) g.2 z
      show MBs (if v < q.2 then some (k, v) else some q) _ _
      rw [if_pos z]
      exact ⟨rfl, rfl⟩
    · intro z
      have z := za_nlt (by omega) g.2 z
      show MBs (if v < q.2 then some (k, v) else some q) _ _
      rw [if_neg (by omega)]
      exact ⟨h'.1, rfl⟩
end MP
