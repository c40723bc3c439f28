theorem px_Call.weaken {E : px_E} {mt : pm_T} {d mc ms : Nat} {as : List Value} {w : pw_W} {Q Q' : Option Value → pw_W → Prop} (h : px_Call E d mc ms mt as w Q) (hq : ∀ r u, Q r u → Q' r u) : px_Call E d mc ms mt as w Q' := by
  intro p e a1 a2 a3 s m args below a4 a5 a6 a7
  obtain ⟨n, o, b1, b2, b3, ⟨r, u, c1, c2, c3⟩, b5⟩ := h p e a1 a2 a3 s m args below a4 a5 a6 a7
  exact ⟨n, o, b1, b2, b3, ⟨r, u, c1, hq r u c2, c3⟩, b5⟩
theorem pw_new_n {w : pw_W} {t : Nat × Nat} : (pw_new w t).1.1 = w.1.1 + 1 := rfl
theorem pw_new_sh {w : pw_W} {t : Nat × Nat} {a : Nat} : pw_sh (pw_new w t) a = if a = w.1.1 + 1 then t else pw_sh w a := rfl
theorem pw_new_I {w : pw_W} {t : Nat × Nat} {a : Nat} : pw_I (pw_new w t) a = if a = w.1.1 + 1 then (fun _ => 0) else pw_I w a := rfl
theorem pw_new_L {w : pw_W} {t : Nat × Nat} {a : Nat} : pw_L (pw_new w t) a = if a = w.1.1 + 1 then (fun _ => 0) else pw_L w a := rfl
theorem pw_new_R {w : pw_W} {t : Nat × Nat} {a : Nat} : pw_R (pw_new w t) a = if a = w.1.1 + 1 then (fun _ => 0) else pw_R w a := rfl
theorem px_ws_new {E : px_E} {w : pw_W} {t : Nat × Nat} : px_ws E (pw_new w t) = px_ws E w ++ [(px_ad E (w.1.1 + 1), px_e E (pw_new w t) (w.1.1 + 1))] := by
  unfold px_ws
  rw [pw_new_n, List.range_succ, List.map_append]
  congr 1
  refine List.map_congr_left (fun j hj => ?_)
  have h : j + 1 ≠ w.1.1 + 1 := by have := List.mem_range.mp hj; omega
  congr 1
  exact px_e_eq (by rw [pw_new_sh, if_neg h]) (by rw [pw_new_I, if_neg h]) (by rw [pw_new_L, if_neg h]) (by rw [pw_new_R, if_neg h])
/-- the heap with one more cell -/
theorem px_H.push {E : px_E} {w : pw_W} {H H1 : Heap} {t : Nat × Nat} (h : px_H E w H) (ho : ∀ q, q < H.size → H1[q]? = H[q]?) (hz : H1.size = H.size + 1) (ha : va_at (px_D E) vwCl (px_ad E (w.1.1 + 1), px_e E (pw_new w t) (w.1.1 + 1)) H1) (hn : w.1.1 + 1 < 1000000) : px_H E (pw_new w t) H1 := by
  refine ⟨?_, fun q hq => (ho q (Nat.lt_of_lt_of_le hq h.2.2.1)).trans (h.2.1 q hq), by rw [hz]; exact Nat.le_succ_of_le h.2.2.1, hn, fun r hr => ?_⟩
  · rw [px_ws_new]
    refine (h.1.kept (fun k q hk => ho q.1 ((h.1 k q hk).lt))).app (fun k q hk => ?_)
    have hz : k < 1 := (List.getElem?_eq_some_iff.mp hk).1
    rw [show k = 0 by omega] at hk
    cases hk
    exact ha
  · rw [pw_new_sh] at hr
    by_cases hr1 : r = w.1.1 + 1
    · subst hr1
      exact ⟨by omega, Nat.le_refl _⟩
    · rw [if_neg hr1] at hr
      obtain ⟨h1, h2⟩ := h.2.2.2.2 r hr
      exact ⟨h1, Nat.le_succ_of_le h2⟩
section PWR
variable {E : px_E} {mt : pm_T} {d rc rs pc : Nat} {ls st : List Value} {w : pw_W} {Q : Option Value → pw_W → Prop}
theorem px_mk {pc' : Nat} {st' : List Value} {t : Nat × Nat} {N : Nat}
    (h : ∀ (p : Program) (e : Env) (R : Room) (s : State) (m : MethodId) (args : Array Value) (below : List Frame) (meth : Method) (c : Code) (Z : State → Prop) (H : Heap) (locs : List Loc) (cells slots : Nat) (lsA : Array Slot), px_C mt p s m args meth c → px_K E s → px_H E w H → H.size = px_ad E (w.1.1 + 1) → cells + 1 ≤ R.cells → slots + N ≤ R.slots →
      (∀ H1 : Heap, px_H E (pw_new w t) H1 → W p (px_l E) e R s m args below meth c H1 locs (cells + 1) (slots + N) Z (F0 m pc' lsA (st'.map (px_v E)))) → W p (px_l E) e R s m args below meth c H locs cells slots Z (F0 m pc lsA (st.map (px_v E))))
    (k : px_W E mt d rc rs pc' ls st' (pw_new w t) Q) : px_W E mt d (1 + rc) (N + rs) pc ls st w Q := by
  intro p e R s m args below meth c Z cx H locs cells slots lsA hC hK hx hH hl hL hR T hT X
  have hsz : H.size = (px_H0 E).size + w.1.1 := by
    have h1 := hH.low hK
    have h2 := X.heapSize
    rw [hT] at h2
    omega
  refine h p e R s m args below meth c Z H locs cells slots lsA hC hK hH (by rw [hK.2.1 _ hH.2.2.2.1]; exact hsz) (by omega) (by omega) (fun H1 hH1 => ?_) T hT X
  exact k p e R s m args below meth c Z cx H1 locs (cells + 1) (slots + N) lsA hC hK ⟨hx.1, hx.2.1, hx.2.2.1, by omega, by omega, by rw [pw_new_n]; omega⟩ hH1 hl hL hR
theorem px_new {idx ci N r : Nat} {C : String} {T : u_T} (hd : decode mt.2.1 pc = .ok (.new idx, 3)) (hf : px_cf ci C T N) (h1 : Cond.classLink mt.1.cls idx C ∈ lw_gd) (h2 : Cond.instantiable C N ∈ lw_gd) (h3 : Cond.initialized C ∈ lw_gd) (hr : w.1.1 + 1 = r) (hn : w.1.1 + 1 < 1000000) (hv : ∀ j, j < N → defaultValue (px_ty ci j) = px_fv E (pw_new w (ci, 0)) r j (px_ty ci j))
    (k : px_W E mt d rc rs (pc + 3) ls (.ref r :: st) (pw_new w (ci, 0)) Q) : px_W E mt d (1 + rc) (N + rs) pc ls st w Q := by
  subst hr
  obtain ⟨f1, f2, f3, f4, f5, f6⟩ := hf
  refine px_mk (fun p e R s m args below meth c Z H locs cells slots lsA hC hK hH hsz hcc hss kk => ?_) k
  have hts := hC.2.2.2.2.2.1
  have hKn := hK.1.1 ci _ f1
  refine W.newcK hC.1 hC.2.1 hC.2.2.2.2.1 (hts _ h1) (hts _ h2) (hts _ h3) rfl hd hcc hss hKn.2.1 hsz fun H1 kC hkC e1 z1 o1 => ?_
  refine kk H1 (hH.push (fun q hq => o1 q (by rw [← hsz]; exact hq)) (by rw [hsz]; exact z1) ?_ hn)
  have hsh : (pw_sh (pw_new w (ci, 0)) (w.1.1 + 1)).1 = ci := by rw [pw_new_sh, if_pos rfl]
  rw [px_e_o hsh f3]
  refine ⟨_, f1, (u_born (px_ty ci) hts f4 hKn hkC e1 f5).to (fun j hj => ?_)⟩
  rw [hv j hj]
  unfold vp_V
  rw [List.getD_eq_getElem?_getD, px_fs_at (by rw [f2]; exact hj)]
  rfl
theorem px_newA {t N r : Nat} {at_ : ArrayType} {n : Int32} (hd : decode mt.2.1 pc = .ok (.newarray at_, 2)) (ht : (t = 100 ∨ t = 101 ∨ t = 102) ∨ t = 103) (hty : newarray.typeOf at_ = px_tt t) (harr : Cond.arrayClass (px_tt t) ∈ lw_gd) (hN : n = nI N) (hb : N < 10000) (hr : w.1.1 + 1 = r) (hn : w.1.1 + 1 < 1000000)
    (k : px_W E mt d rc rs (pc + 2) ls (.ref r :: st) (pw_new w (t, N)) Q) : px_W E mt d (1 + rc) (N + rs) pc ls (.int n :: st) w Q := by
  subst hr; subst hN
  refine px_mk (fun p e R s m args below meth c Z H locs cells slots lsA hC hK hH hsz hcc hss kk => ?_) k
  have hts := hC.2.2.2.2.2.1
  refine va_newaK hC.1 hC.2.1 (by rw [hty]; exact hts _ harr) rfl hd (N := N) rfl (nI_pos (by omega)) (nI_clamp (by omega)) ?_ hcc hss hsz fun H1 cA e1 z1 o1 hAr hNm => ?_
  · rw [hty]
    have : componentBytes (px_tt t) ≤ 8 := by rcases ht with (rfl | rfl | rfl) | rfl <;> decide
    calc N * componentBytes (px_tt t) ≤ N * 8 := Nat.mul_le_mul_left _ this
      _ ≤ 536870912 := by omega
  · refine kk H1 (hH.push (fun q hq => o1 q (by rw [← hsz]; exact hq)) (by rw [hsz]; exact z1) ?_ hn)
    have hsh : pw_sh (pw_new w (t, N)) (w.1.1 + 1) = (t, N) := by rw [pw_new_sh, if_pos rfl]
    have hcA : ∀ i ty, (px_tys E)[i]? = some (px_cA E i, ty) → ty = newarray.typeOf at_ → (∀ C, ty ≠ .object C) → cA = px_cA E i := by
      intro i ty hi he hno
      have h2 := (hK.1.2 i _ hi).2
      subst he
      unfold va_RA at h2
      dsimp only at h2
      split at h2
      · rename_i C hC2; exact absurd hC2 (hno C)
      · exact Option.some.inj (hNm.symm.trans h2)
    rw [hty] at e1
    rcases ht with (rfl | rfl | rfl) | rfl
    · rw [px_e_a hsh (Or.inl rfl), pw_new_I, if_pos rfl, ← hcA 0 .int rfl hty.symm (fun _ h => by cases h)]
      exact e1
    · rw [px_e_a hsh (Or.inr (Or.inl rfl)), pw_new_I, if_pos rfl, ← hcA 1 .byte rfl hty.symm (fun _ h => by cases h)]
      exact e1
    · rw [px_e_a hsh (Or.inr (Or.inr rfl)), pw_new_I, if_pos rfl, ← hcA 2 .boolean rfl hty.symm (fun _ h => by cases h)]
      exact e1
    · rw [px_e_l hsh, pw_new_L, if_pos rfl, ← hcA 3 .long rfl hty.symm (fun _ h => by cases h)]
      exact e1
theorem px_objInit {idx r : Nat} (hd : decode mt.2.1 pc = .ok (.invokespecial idx, 3)) (h1 : Cond.methodLink mt.1.cls idx Lib.objectInit ∈ lw_gd) (h2 : Cond.instanceMethod Lib.objectInit ∈ lw_gd) (h3 : Cond.code Lib.objectInit ⟨#[0xb1]⟩ 1 none ∈ lw_gd) (hst : (st.map fun v => v.category).sum ≤ 8) (k : px_W E mt (d + 1) rc rs (pc + 3) ls st w Q) : px_W E mt (d + 1) rc rs pc ls (.ref r :: st) w Q := by
  intro p e R s m args below meth c Z cx H locs cells slots lsA hC hK hx hH hl hL hR
  have hts := hC.2.2.2.2.2.1
  have hst2 := px_cats (E := E) hst
  refine W.objInit hC.1 hC.2.1 hC.2.2.2.2.1 (hts _ h1) (hts _ h2) (hts _ h3) rfl (by rw [hC.2.2.1]; exact hL.1) (a := px_ad E r) (rest := st.map (px_v E)) rfl hd (by omega) ?_ (k p e R s m args below meth c Z cx H locs cells slots lsA hC hK hx hH hl hL hR)
  show 2 * 0 + _ + 12 ≤ _
  omega
end PWR
