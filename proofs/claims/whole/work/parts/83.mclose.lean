section MFM
variable {E : px_E} {d : Nat} {w w0 : pw_W} {Q : Option Value → pw_W → Prop} {t : ct_T} {T : Nat → Nat} {n p u : Nat} {pr : List Int32} {D : DS}
theorem MG.fld {F : List Nat} {w' : pw_W} (hG : MG t T n p D w0 w) (ha : agF [] F w w') (hf : ∀ a ∈ F, a ∈ pfM) (hn : ∀ a ∈ [2, 3, 4, 5, 6, 7, 8, 9, 17, 20, 24, 45, 46, 47, 48, 49, 50, 57, 58, 59], a ∉ F) : MG t T n p D w0 w' := by
  obtain ⟨hw, hA, hp, hk, f2, f3, hX⟩ := hG
  exact ⟨ha.1.trans hw, hA.tr (ha.mono (fun a h => absurd h List.not_mem_nil) hf), hp, hk.agF ha List.not_mem_nil (fun a h => hn a (by revert a; decide)), (ha.F List.not_mem_nil (hn 2 (by decide))).trans f2, (ha.F List.not_mem_nil (hn 3 (by decide))).trans f3, hX.agF ha (fun a _ => List.not_mem_nil) (fun a h => hn a (by revert a; decide))⟩
/-- how many nots lie on the stack -/
def nts (st : List Nat) : Nat := st.countP (fun c => c == 21)
theorem mClo {k : Nat} (hk : k ≤ 6) (hb : (dO D).testBit 3 = true) : ∀ (st : List Nat) (dp : Nat) (pr : List Int32) (w : pw_W), (∀ c ∈ st, c ∈ stS) → st.length ≤ 160 → nts st ≤ dp → dp ≤ 100 → pr.length + st.length < 320 → MG t T n p (dFm D u pr) w0 w → MF9 st dp w → (∀ w', MG t T n p (dFm D u (clo k st dp pr).2.2) w0 w' → MF9 (clo k st dp pr).1 (clo k st dp pr).2.1 w' → agF [64, 65] [17, 19, 23] w w' → Q none w') → px_W E mX10_close (d + 2) 0 0 0 [.ref 61, .int (nI k)] [] w Q := by
  intro st
  induction st with
  | nil =>
    intro dp pr w hs hl hd1 hd2 hp hG hM kk
    refine bX10_close_0 hG.1 (fun _ => bX10_close_101 hG.1 (kk w hG hM agF.rf)) (fun z => absurd (by rw [hM.1]; exact Int32.le_refl _) z)
  | cons c st ih =>
    intro dp pr w hs hl hd1 hd2 hp hG hM kk
    have hl : st.length + 1 ≤ 160 := hl
    have hp : pr.length + (st.length + 1) < 320 := hp
    have hc := hs c (List.mem_cons_self)
    have cb := emi_b c hc
    have tp := hM.top
    have h19 : pw_I w 61 19 = nI (st.length + 1) := hM.1
    have e1 : pw_I w 61 19 - 1 = nI st.length := by rw [h19]; exact pk_sub (b := 1) (by omega)
    have stop : (clo k (c :: st) dp pr = (c :: st, dp, pr)) → px_W E mX10_close (d + 2) 0 0 101 [.null, .null] [] w Q := fun h => by
      rw [h] at kk
      exact bX10_close_101 hG.1 (kk w hG hM agF.rf)
    refine bX10_close_0 hG.1 (fun z => absurd z (by rw [h19]; exact nI_ge (a := 0) (by omega) (by omega))) (fun _ => ?_)
    refine bX10_close_7 hG.1 st.length e1 (by omega) (fun z => ?_) (fun z => ?_) <;> rw [tp] at z
    · have z := za_eq (b := 20) (by omega) (by decide) z
      exact stop (by rw [clo, if_pos z])
    · have z20 : c ≠ 20 := fun q => z (by rw [q]; rfl)
      refine bX10_close_23 hG.1 st.length e1 (by omega) (fun z => ?_) (fun z => ?_) <;> rw [tp, tig_w c hc] at z
      · have z := za_lt (by omega) (by omega) z
        exact stop (by rw [clo, if_neg z20, if_pos z])
      · have zk : ¬ tig c < k := fun q => z (nI_lt q (by omega))
        have C : clo k (c :: st) dp pr = clo k st (if c = 21 then dp - 1 else dp) (pr ++ [emi c]) := by rw [clo, if_neg z20, if_neg zk]
        rw [C] at kk
        have pl : (pr ++ [emi c]).length = pr.length + 1 := by rw [List.length_append]; rfl
        have nt : nts (c :: st) = nts st + (if c = 21 then 1 else 0) := by
          unfold nts
          rw [List.countP_cons]
          by_cases q : c = 21
          · simp [q]
          · simp [q]
        rw [nt] at hd1
        have aA : agF [] [19] w (pw_sI w 61 19 (pw_I w 61 19 - 1)) := agF.sI (by decide)
        have gA : MG t T n p (dFm D u pr) w0 (pw_sI w 61 19 (pw_I w 61 19 - 1)) := hG.fld aA (by decide) (by decide)
        refine bX10_close_41 hG.1 st.length e1 (by omega) (fun z => ?_) (fun z => ?_) <;> rw [tp] at z
        · have z21 : c ≠ 21 := fun q => z (by rw [q]; rfl)
          rw [if_neg z21] at kk hd1
          refine bX10_close_84 gA.1 st.length (by rw [pw_same, e1]) (by omega) ?_
          rw [pw_oth (by omega), tp]
          refine tX10_addG (v := emi c) (Or.inr (Or.inr (Or.inr ⟨rfl, emi_m c hc z20 z21⟩))) (by omega) hb gA (fun w2 g2 a2 => bX10_close_98 g2.1 ?_)
          refine ih dp (pr ++ [emi c]) w2 (fun x hx => hs x (List.mem_cons_of_mem _ hx)) (by omega) (by omega) hd2 (by rw [pl]; omega) g2 ?_ (fun w3 g3 m3 a3 => kk w3 g3 m3 ?_)
          · refine hM.pop ?_ ?_ (fun i => ?_)
            · rw [a2.F (by decide) (by decide), pw_same, e1]
            · rw [a2.F (by decide) (by decide), pw_oth (by decide)]; exact hM.2.1
            · rw [a2.I (by decide) (by decide), pw_oth (by omega)]
          · exact (aA.mono (fun a h => absurd h List.not_mem_nil) (by decide)).tr ((a2.mono (fun a h => h) (by decide)).tr a3)
        · have z21 : c = 21 := za_eq (b := 21) (by omega) (by decide) z
          rw [if_pos z21] at kk hd1
          have e6 : emi c = -6 := by rw [z21]; rfl
          refine tX10_addG (v := emi c) (Or.inr (Or.inr (Or.inl ⟨rfl, e6⟩))) (by omega) hb gA (fun w2 g2 a2 => bX10_close_71 g2.1 ?_)
          have h23 : pw_I w2 61 23 - 1 = nI (dp - 1) := by
            rw [a2.F (by decide) (by decide), pw_oth (by decide), hM.2.1]
            exact pk_sub (b := 1) (by omega)
          rw [h23]
          have aB : agF [] [23] w2 (pw_sI w2 61 23 (nI (dp - 1))) := agF.sI (by decide)
          have g3 := g2.fld aB (by decide) (by decide)
          refine ih (dp - 1) (pr ++ [emi c]) _ (fun x hx => hs x (List.mem_cons_of_mem _ hx)) (by omega) (by omega) (by omega) (by rw [pl]; omega) g3 ?_ (fun w4 g4 m4 a4 => kk w4 g4 m4 ?_)
          · refine hM.pop ?_ pw_same (fun i => ?_)
            · rw [pw_oth (by decide), a2.F (by decide) (by decide), pw_same, e1]
            · rw [pw_oth (by omega), a2.I (by decide) (by decide), pw_oth (by omega)]
          · exact (aA.mono (fun a h => absurd h List.not_mem_nil) (by decide)).tr ((a2.mono (fun a h => h) (by decide)).tr ((aB.mono (fun a h => absurd h List.not_mem_nil) (by decide)).tr a4))
theorem tX10_close {k dp : Nat} {st : List Nat} {v : Int32} (hv : v = nI k) (hk : k ≤ 6) (hb : (dO D).testBit 3 = true) (hs : ∀ c ∈ st, c ∈ stS) (hl : st.length ≤ 160) (hd1 : nts st ≤ dp) (hd2 : dp ≤ 100) (hp : pr.length + st.length < 320) (hG : MG t T n p (dFm D u pr) w0 w) (hM : MF9 st dp w) (kk : ∀ w', MG t T n p (dFm D u (clo k st dp pr).2.2) w0 w' → MF9 (clo k st dp pr).1 (clo k st dp pr).2.1 w' → agF [64, 65] [17, 19, 23] w w' → Q none w') : px_Call E (d + 2) 0 0 mX10_close [.ref 61, .int v] w Q := by
  subst hv
  exact px_enter (k := 0) (by decide) (Nat.le_of_ble_eq_true rfl) rfl (px_forget (ls' := [.ref 61, .int (nI k)]) (mClo hk hb st dp pr w hs hl hd1 hd2 hp hG hM kk) ⟨Or.inr rfl, Or.inr rfl, trivial⟩)
end MFM
