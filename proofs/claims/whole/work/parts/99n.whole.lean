/-! THE CLAIM OUT OF ONE WALK OF THE LAW'S BODY. Your part is whole_start (and what it stands on); all else here is the same for every law, but numbers. -/
def R_law : String := "NettleGreenLaw"
def lw_P (b : Addr) (xs : List Int32) (args : Array Value) (s : State) : Prop := args = #[.ref b] ∧ s.IntsAt b xs ∧ xs.length ≤ 3072 ∧ (Jvm.Cond.and given_1 narrow_1).before args s = true
def lw_Q (_ : Array Value) (s : State) (o : Outcome) (t : State) : Prop := o = .returned (some (.int 1)) ∧ Framed s o t [] 600000 7302250
def lw_Z (below : List Frame) (a : Array Value) (s : State) : State → Prop := fun t => ∃ o, t.status = .running ∧ Ended t below o ∧ lw_Q a s o t
/-- the law's own end, with 1 on the stack, nothing written that was there before, its room as the claim has it -/
theorem lw_ret {p : Program} {l : Launch} {e : Env} {s : State} {m : MethodId} {below : List Frame} {meth : Method} {c : Code} {b : Nat} (hx : p.tables.exec = Jvm.exec) (hb : c.code = code) (hr : meth.sig.returnType = ret) (hlocks : meth.locks = false) {pc : Nat} {H : Heap} {ls : Array Slot} (hdg : decode code pc = .ok (.ireturn, 1)) : W p l e room_1 s m #[Value.ref b] below meth c H [] 600000 7302250 (lw_Z below #[Value.ref b] s) (F0 m pc ls [.int 1]) := by
  intro T hT X
  obtain ⟨fs, hret, hrun, hended, hW, hframe⟩ := X.leave (v := some (.int 1)) (hlocks := hlocks) (fun h => by rw [hr] at h; cases h)
  have hmeth' : T.vm.method? m = some meth := X.method'
  refine ⟨T.setFrames fs, ?_, .returned (some (.int 1)), hrun, hended, rfl, ⟨_, rfl⟩, hW, hframe⟩
  jvm_step X.here [X.here.top, hx, hb, hdg, hmeth', hr, ret, narrow_b1]
  (try refine ⟨rfl, ?_⟩); (try refine ⟨rfl, ?_⟩)
  first | (intro acts; rw [hret _ acts rfl rfl rfl]) | rw [hret _ _ rfl rfl rfl]
  exact Steps.refl _
/-- what holds at the law's entry: the machine, the code, the tables' words (any of lw_tbl by 'hts w (by decide +kernel)'), the script of L ints xs at the cell b, what the Statement gives of the start (any of its parts by flat_of_before) -/
def lw_At (p : Program) (s : State) (m : MethodId) (meth : Method) (c : Code) (b L : Nat) (xs : Nat → Int32) : Prop :=
  p.tables.exec = Jvm.exec ∧ c.code = code ∧ meth.sig.returnType = ret ∧ c.maxLocals = 4 ∧ s.vm.findClass R_law = some m.cls ∧ (∀ w ∈ lw_tbl, w.before #[Value.ref b] s = true) ∧ va_X b L xs s s.heap ∧ b < s.heap.size ∧ meth.locks = false ∧ (Jvm.Cond.and given_1 narrow_1).before #[Value.ref b] s = true
theorem whole_start {p : Program} {e : Env} {s : State} {m : MethodId} {below : List Frame} {meth : Method} {c : Code} (l : Launch) {b L : Nat} {xs : Nat → Int32} (hL : L ≤ 3072) (C0 : lw_At p s m meth c b L xs) : W p l e room_1 s m #[Value.ref b] below meth c s.heap [] 0 0 (lw_Z below #[Value.ref b] s) (entryFrame m ([Value.ref b] : List Value).toArray 4) := by
  obtain ⟨hx, hb, hr, hml, hown, hts, hX, hbl, hlocks, hgv⟩ := id C0
  have hgd : ∀ w ∈ lw_gd, w.before #[Value.ref b] s = true := fun w hw => hts w (lw_gd_in w hw)
  have hfl : ∀ w ∈ stF, w.before #[Value.ref b] s = true := flat_of_before _ hgv
  have hA : ∀ a : Nat, a < s.heap.size → ¬ (fun q : Nat => s.heap.size ≤ q) a := fun a h => Nat.not_le.mpr h
  obtain ⟨dC, dI, hKc⟩ := st_classes hgd
  obtain ⟨cA, hAr⟩ := st_arrays hgd
  obtain ⟨adK, adV, hSt, hTm⟩ := st_texts (A := fun q : Nat => s.heap.size ≤ q) hfl hA
  have hCS : va_Z "java/lang/String" "COMPACT_STRINGS" "Z" (.int 1) (fun q : Nat => s.heap.size ≤ q) s s.heap := va_Zof (hts (.laysStatic "java/lang/String" "COMPACT_STRINGS" "Z") (px_t1 _ (List.mem_of_getElem? (i := 190) rfl))) (hgd (.initialized "java/lang/String") (px_in1 6 rfl rfl)) (va_eqt (hfl _ stF_7)) hA
  have hSI := va_Zqof (hts (.laysStatic "jdk/internal/util/Preconditions" "SIOOBE_FORMATTER" "Ljava/util/function/BiFunction;") (px_t1 _ (List.mem_of_getElem? (i := 206) rfl))) (hgd (.initialized "jdk/internal/util/Preconditions") (px_in1 8 rfl rfl)) (hfl _ stF_8) hA
  obtain ⟨tS, hSI⟩ : ∃ tS : Nat, va_Z "jdk/internal/util/Preconditions" "SIOOBE_FORMATTER" "Ljava/util/function/BiFunction;" .null (fun q : Nat => s.heap.size ≤ q) s s.heap ∨ va_Z "jdk/internal/util/Preconditions" "SIOOBE_FORMATTER" "Ljava/util/function/BiFunction;" (.ref tS) (fun q : Nat => s.heap.size ≤ q) s s.heap := by
    rcases hSI with h | ⟨tS, h⟩
    · exact ⟨0, Or.inl h⟩
    · exact ⟨tS, Or.inr h⟩
  obtain ⟨ad, had⟩ : ∃ ad : Nat → Nat, ad = fun r => if r = 0 then b else if r ≤ 1000000 then s.heap.size + (r - 1) else if r = 1000001 then adK 0 else if r = 1000002 then adK 1 else if r = 1000003 then adV 0 else if r = 1000004 then adV 1 else tS := ⟨_, rfl⟩
  have ad0 : ad 0 = b := by rw [had]; exact if_pos rfl
  have adr : ∀ r, r < 1000000 → ad (r + 1) = s.heap.size + r := fun r hr => by
    rw [had]
    show (if r + 1 = 0 then b else if r + 1 ≤ 1000000 then s.heap.size + (r + 1 - 1) else _) = _
    rw [if_neg (by omega), if_pos (by omega), Nat.add_sub_cancel]
  have ad1 : ad 1000001 = adK 0 := by
    rw [had]
    show (if (1000001 : Nat) = 0 then b else if (1000001 : Nat) ≤ 1000000 then _ else if (1000001 : Nat) = 1000001 then _ else _) = _
    rw [if_neg (by decide), if_neg (by decide), if_pos rfl]
  have ad2 : ad 1000002 = adK 1 := by
    rw [had]
    show (if (1000002 : Nat) = 0 then b else if (1000002 : Nat) ≤ 1000000 then _ else if (1000002 : Nat) = 1000001 then _ else if (1000002 : Nat) = 1000002 then _ else _) = _
    rw [if_neg (by decide), if_neg (by decide), if_neg (by decide), if_pos rfl]
  have ad3 : ad 1000003 = adV 0 := by
    rw [had]
    show (if (1000003 : Nat) = 0 then b else if (1000003 : Nat) ≤ 1000000 then _ else if (1000003 : Nat) = 1000001 then _ else if (1000003 : Nat) = 1000002 then _ else if (1000003 : Nat) = 1000003 then _ else _) = _
    rw [if_neg (by decide), if_neg (by decide), if_neg (by decide), if_neg (by decide), if_pos rfl]
  have ad4 : ad 1000004 = adV 1 := by
    rw [had]
    show (if (1000004 : Nat) = 0 then b else if (1000004 : Nat) ≤ 1000000 then _ else if (1000004 : Nat) = 1000001 then _ else if (1000004 : Nat) = 1000002 then _ else if (1000004 : Nat) = 1000003 then _ else if (1000004 : Nat) = 1000004 then _ else _) = _
    rw [if_neg (by decide), if_neg (by decide), if_neg (by decide), if_neg (by decide), if_neg (by decide), if_pos rfl]
  have ad5 : ad 1000005 = tS := by
    rw [had]
    show (if (1000005 : Nat) = 0 then b else if (1000005 : Nat) ≤ 1000000 then _ else if (1000005 : Nat) = 1000001 then _ else if (1000005 : Nat) = 1000002 then _ else if (1000005 : Nat) = 1000003 then _ else if (1000005 : Nat) = 1000004 then _ else _) = _
    rw [if_neg (by decide), if_neg (by decide), if_neg (by decide), if_neg (by decide), if_neg (by decide), if_neg (by decide)]
  clear had
  obtain ⟨E, hE⟩ : ∃ E : px_E, E = (l, (dC, dI), s.heap, ad, cA, L, xs) := ⟨_, rfl⟩
  have hK : px_K E s := by
    subst hE
    refine ⟨⟨hKc, hAr⟩, adr, ?_, ?_, fun w hw => ?_, ⟨⟨fun i hi => ?_, fun i j hi hj q => ?_⟩, hCS⟩, ?_, ?_, ?_⟩
    · show ad 0 < s.heap.size
      rw [ad0]; exact hbl
    · show va_X (ad 0) L xs s s.heap
      rw [ad0]; exact hX
    · obtain ⟨a, i, x, t, rfl⟩ := px_nest_spec hw
      exact va_Nw.of rfl (hts _ (List.mem_filter.mp hw).1)
    · have q : i = 0 ∨ i = 1 := by omega
      have z := hSt.1 i hi
      rcases q with rfl | rfl
      · show va_O "java/lang/String" (ad 1000001) _ s s.heap ∧ va_OF "java/lang/String" "coder" "B" (.int 0) (ad 1000001) _ s s.heap ∧ va_OF "java/lang/String" "value" "[B" (.ref (ad 1000003)) (ad 1000001) _ s s.heap ∧ va_T .byte (ad 1000003) _ _ _ s s.heap
        rw [ad1, ad3]; exact z
      · show va_O "java/lang/String" (ad 1000002) _ s s.heap ∧ va_OF "java/lang/String" "coder" "B" (.int 0) (ad 1000002) _ s s.heap ∧ va_OF "java/lang/String" "value" "[B" (.ref (ad 1000004)) (ad 1000002) _ s s.heap ∧ va_T .byte (ad 1000004) _ _ _ s s.heap
        rw [ad2, ad4]; exact z
    · have q : ad (1000001 + i) = ad (1000001 + j) := q
      have e : ∀ i, i < 2 → ad (1000001 + i) = adK i := fun i hi => by
        rcases (show i = 0 ∨ i = 1 by omega) with rfl | rfl
        · exact ad1
        · exact ad2
      rw [e i hi, e j hj] at q
      exact hSt.2 i j hi hj q
    · have h1 := hTm 0 (by decide)
      have h2 := hts (.stringRef "NettleGreen$Scanner" 17 px_tx0) (px_t1 _ (List.mem_of_getElem? (i := 180) rfl))
      show vk_R "NettleGreen$Scanner" 17 px_tx0 (ad 1000001) s
      rw [ad1]; exact vk_R.of h2 h1
    · have h1 := hTm 1 (by decide)
      have h2 := hts (.stringRef "NettleGreen$Scanner" 70 px_tx1) (px_t3 _ (List.mem_of_getElem? (i := 33) rfl))
      show vk_R "NettleGreen$Scanner" 70 px_tx1 (ad 1000002) s
      rw [ad2]; exact vk_R.of h2 h1
    · rcases hSI with h | h
      · exact ⟨.null, rfl, h⟩
      · refine ⟨.ref 1000005, rfl, ?_⟩
        show va_Z _ _ _ (.ref (ad 1000005)) _ s s.heap
        rw [ad5]; exact h
  have el : px_l E = l := by rw [hE]
  have eH : px_H0 E = s.heap := by rw [hE]
  have e0 : px_ad E 0 = b := by rw [hE]; exact ad0
  have eL : px_sL E = L := by rw [hE]
  have hH : px_H E (wk 0 0 0 zJ0) s.heap := by
    refine ⟨fun k q h => ?_, fun q _ => by rw [eH], by rw [eH]; exact Nat.le_refl _, by decide, fun r hr => ?_⟩
    · have h : ([] : va_W)[k]? = some q := h
      simp at h
    · exfalso
      have hr : (wkS 0 r).1 < 200 := hr
      unfold wkS at hr
      by_cases q : r ≤ 0
      · rw [if_pos q, show r = 0 by omega] at hr
        exact absurd hr (by decide)
      · rw [if_neg q] at hr
        exact absurd hr (by decide)
  have hLo : px_L E 4 ((lg_sl [Value.ref b] ++ List.replicate (4 - (lg_sl [Value.ref b]).length) Slot.unset).toArray) [.ref 0, .null, .null, .null] := by
    have h := px_enL (E := E) (as := [.ref 0]) (n := 4) (k := 3) (ls := [.ref 0, .null, .null, .null]) (Nat.le_of_ble_eq_true rfl) rfl
    have e1 : [Value.ref 0].map (px_v E) = [Value.ref b] := by
      show [Value.ref (px_ad E 0)] = _
      rw [e0]
    rw [e1] at h
    exact h
  have hC : px_C (mLw meth.name) p s m #[Value.ref b] meth c := ⟨hx, hb, hml, hr, hown, hgd, rfl⟩
  have hRt : px_Rt E (mLw meth.name) p e room_1 s m #[Value.ref b] below meth c (lw_Z below #[Value.ref b] s) 107 (fun r _ => r = some (.int 1)) := by
    intro r w pc lsA st H locs slots hq hra hsl hH hl hsz
    have hq : r = some (.int 1) := hq
    subst hq
    rcases hra with ⟨v, h1, h2, h3, -⟩ | ⟨-, -, h3, -⟩ | ⟨v, -, -, h3, -⟩ | ⟨a, -, -, h3, -⟩
    · cases h3
      subst h2
      rw [el]
      exact va_forget (fun q hq => by have := hl q hq; unfold px_A at this; rw [eH] at this; exact this) (W.widen (k := 600000) (n := 7302250) (by decide) hsl (lw_ret hx hb hr hlocks h1))
    · cases h3
    · cases h3
    · cases h3
  have W0 := law_px (E := E) (Q := fun r _ => r = some (.int 1)) (nm := meth.name) (by rw [eL]; exact hL) (fun _ => rfl) p e room_1 s m #[Value.ref b] below meth c (lw_Z below #[Value.ref b] s) 107 s.heap [] 0 0 _ hC hK ⟨by decide, by decide, by decide, rfl, by decide, by rw [eH]; rfl⟩ hH (fun q hq => absurd hq List.not_mem_nil) hLo hRt
  rw [el] at W0
  rw [lg_entry_eq]
  exact W0
set_option maxHeartbeats 4000000 in
theorem lw_walk (l : Launch) (b : Addr) (xs : List Int32) : MetFree l x (headSpec (Jvm.Cond.code x code maxLocals ret :: tables_1) room_1) (lw_P b xs) (fun _ _ _ _ _ => True) lw_Q := by
  refine MetFree.of_bodyS (code := code) (maxLocals := maxLocals) (ret := ret) (by decide) ?_ ?_
  · intro args s m h hn
    obtain ⟨meth, c, h1, h2, h3, h4, h5, h6, -, -⟩ := Cond.code_spec hn (atoms_spec (ws := Jvm.Cond.code x code maxLocals ret :: tables_1) h _ List.mem_cons_self)
    exact ⟨meth, c, h1, h2, h3, h4, h5, h6⟩
  · intro p e s m args below meth c s₁ B hml0 hP _
    obtain ⟨rfl, hx, hbd, hgv⟩ := hP
    obtain ⟨scr, harrAt, hlist, hof, hsmall⟩ := hx
    obtain ⟨hcb, hkn, -, -⟩ := State.arrayAt?_spec harrAt
    have hown : s.vm.findClass R_law = some m.cls := findClass_of_methodNamed B.named
    have hts0 : ∀ c ∈ (Jvm.Cond.code x code maxLocals ret :: tables_1), c.before #[Value.ref b] s = true := atoms_spec (ws := Jvm.Cond.code x code maxLocals ret :: tables_1) B.pre
    have hts : ∀ w ∈ lw_tbl, w.before #[Value.ref b] s = true := k2_hts_sels lw_privs (fun w hw => hts0 w (List.mem_cons_of_mem _ hw)) lw_privs_ok
    have hml : c.maxLocals = 4 := B.maxLocals_eq (hts0 _ List.mem_cons_self)
    have X₀ : Stand p l e room_1 s m #[Value.ref b] below meth c s₁ [] 0 0 := Stand.of_body B
    have hh0 : s₁.heap = s.heap := by rw [B.state]; rfl
    have hsz : scr.slots.size = xs.length := by rw [← Array.length_toList, hlist, List.length_map]
    have hval : ∀ j : Nat, j < xs.length → scr.slots[j]? = some (.int (xs.getD j 0)) := fun j hj => by
      rw [← Array.getElem?_toList, hlist]
      simp [hj]
    have hbl : b < s.heap.size := (Array.getElem?_eq_some_iff.mp hcb).1
    have hX : va_X b xs.length (fun j => xs.getD j 0) s s.heap := ⟨scr, hcb, hof, hkn, hsz, hval⟩
    have K : W p l e room_1 s m #[Value.ref b] below meth c s₁.heap [] 0 0 (lw_Z below #[Value.ref b] s) (entryFrame m ([Value.ref b] : List Value).toArray 4) := by
      rw [hh0]
      exact whole_start l hbd ⟨B.exec, B.bytes, B.returns, hml, hown, hts, hX, hbl, B.notSynchronized, hgv⟩
    obtain ⟨t, a1, o, b1, b2, b3⟩ := K s₁ rfl X₀
    exact ⟨t, o, a1, b1, b2, b3⟩
theorem lw_pre_spec {args : Array Value} {s : State} (h : (Jvm.Cond.and given_1 narrow_1).before args s = true) (hr : rest_1_c.before args s = true) : ∃ (b : Addr) (xs : List Int32), lw_P b xs args s := by
  have hs := flat_of_before _ h
  have hq := flat_of_before _ hr
  have hc : (Cond.count 1).before args s = true := hs _ (by decide +kernel)
  have harr : (Cond.arrayOf (.arg 0) .int).before args s = true := hs _ (by decide +kernel)
  have hle : (Cond.le (.length (.arg 0)) (.int 3072)).before args s = true := hs _ (by decide +kernel)
  have hlen : (Cond.isInt (.length (.arg 0))).before args s = true := hq _ (by decide +kernel)
  have hall : (Cond.all (.arg 0) (.isInt (.elem (.arg 0) (.index 0)))).before args s = true := hq _ (by decide +kernel)
  obtain ⟨b, xs, hb, hx⟩ := State.ints_of_pre rfl harr hlen hall
  have hsm : xs.length < 2 ^ 31 := hx.choose_spec.2.2.2
  have hev : (Term.length (.arg 0)).eval args s none [] s = some (.int xs.length.toInt32) := hx.length_eval hb
  have hv := Cond.le_ints hev (show (Term.int 3072).eval args s none [] s = some (.int 3072) from rfl)
  have hd : xs.length.toInt32 ≤ 3072 := by
    simpa [Cond.before, Cond.holds, hv] using hle
  have hN : xs.length ≤ 3072 := (Int32.ofNat_le_ofNat hsm (by decide)).mp (show Int32.ofNat xs.length ≤ Int32.ofNat 3072 from hd)
  exact ⟨b, xs, Cond.one_arg hc (show args[0]? = some (.ref b) from hb), hx, hN, h⟩
theorem lw_comes (l : Launch) : Comes l x (Jvm.Cond.code x code maxLocals ret :: tables_1) room_1 (fun tb e args s => Calls_1 tb e args s ∧ rest_1 tb e args s ∧ Pre_1 tb e args s)
    (fun _ _ args s o t => lw_Q args s o t) := by
  intro p e ha hc hk s m args below hf hfit hheap happ hpre
  obtain ⟨b, xs, hP⟩ := lw_pre_spec hpre.2.2 hpre.2.1
  obtain ⟨k, o, h1, h2, h3, hQ⟩ := lw_walk l b xs p e ha hc hk s m args below hf ((Spec.applies_iff_loose hf).mp happ).1 hP trivial
  exact ⟨k, o, h1, h2, h3, hQ⟩
theorem lw_frame {s t : State} {o : Outcome} {args : Array Value} (h : Framed s o t [] 600000 7302250) :
    Framed s o t (fieldLocs frame_1_writes args s ++ arrayLocs frame_1_arrays args s ++ staticLocs frame_1_statics s) 600000 7302250 := h
theorem lw_limb (L : Cond) (hL : ∀ (args : Array Value) (s t : State), L.after args s (.returned (some (.int 1))) t = true) :
    ArmFor flags0 classFile x code maxLocals ret World_1 tables_1 room_1 Calls_1 rest_1 Pre_1
      (fun tb e a s o t => postC L tb e a s o t ∧ Framed s o t (fieldLocs frame_1_writes a s ++ arrayLocs frame_1_arrays a s ++ staticLocs frame_1_statics s) 600000 7302250) := by
  intro l _ _ _ p e ha hc hk s m args below hf hfit hheap happ hpre
  obtain ⟨k, o, h1, h2, h3, rfl, hF⟩ := lw_comes l p e ha hc hk s m args below hf hfit hheap happ hpre
  exact ⟨k, _, h1, h2, h3, hL args s _, lw_frame hF⟩
theorem i_vc : Claimed_1_1 ∧ Claimed_1_2 := ⟨lw_limb limb_1_1 (fun args s t => by simp [limb_1_1, Cond.after, Cond.holds, Cond.value]), lw_limb limb_1_2 (fun args s t => Cond.after_iff.mpr (by
  first | (rw [show limb_1_2 = Cond.eq .result (.int 1) from rfl, Cond.eq_ints (x := 1) (y := 1) rfl rfl]; simp; done) | (simp [limb_1_2, Cond.value, Term.eval]; done)))⟩
