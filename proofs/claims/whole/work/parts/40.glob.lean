/-! the whole state, and how both objects hold it -/
abbrev GG : Type := aH × aS × ((Nat → aS) × Nat × Nat) × ((Nat → aS) × Nat) × (aG × Nat × Nat) × ((Nat → Int32) × Nat) × ((Nat → Nat) × Nat) × (Int32 × Int32)
def gH (g : GG) : aH := g.1
def gS (g : GG) : aS := g.2.1
def gR (g : GG) : Nat → aS := g.2.2.1.1
def gA (g : GG) : Nat := g.2.2.1.2.1
def gB (g : GG) : Nat := g.2.2.1.2.2
def gX (g : GG) : Nat → aS := g.2.2.2.1.1
def gU (g : GG) : Nat := g.2.2.2.1.2
def gG (g : GG) : aG := g.2.2.2.2.1.1
def gN (g : GG) : Nat := g.2.2.2.2.1.2.1
def gT (g : GG) : Nat := g.2.2.2.2.1.2.2
def gY (g : GG) : Nat → Int32 := g.2.2.2.2.2.1.1
def gC (g : GG) : Nat := g.2.2.2.2.2.1.2
def gP (g : GG) : Nat → Nat := g.2.2.2.2.2.2.1.1
def gL (g : GG) : Nat := g.2.2.2.2.2.2.1.2
def gK (g : GG) : Int32 := g.2.2.2.2.2.2.2.1
def gF (g : GG) : Int32 := g.2.2.2.2.2.2.2.2
def aW9 (h : aH) (s : aS) : Prop := aWS h s ∧ sD s ≤ 999
def WG (g : GG) : Prop := aWH (gH g) ∧ (gR g (gA g) = gS g ∧ gA g ≤ gB g ∧ gB g ≤ 40 ∧ ∀ i, i ≤ gB g → aW9 (gH g) (gR g i)) ∧ (gU g < 8 ∧ ∀ i, i < 3 → (gU g).testBit i = true → aW9 (gH g) (gX g i)) ∧ aWG (gH g) (gG g) (gN g) (gT g) ∧ gC g ≤ 6 ∧ (gL g ≤ 1600 ∧ ∀ i, gP g i < 256)
theorem WG.s {g : GG} (hg : WG g) : aW9 (gH g) (gS g) := by rw [← hg.2.1.1]; exact hg.2.1.2.2.2 _ hg.2.1.2.1
def kwL : List Int64 := []
def XF (g : GG) (w : pw_W) : Prop := pw_I w 1 9 = nI (gU g) ∧ pw_I w 1 14 = nI (gC g) ∧ pw_I w 1 1 = nI (gL g) ∧ pw_I w 1 3 = gK g ∧ pw_I w 1 4 = gF g
def XB (g : GG) (w : pw_W) : Prop := ∀ i, i < 3 → (gU g).testBit i = true → RXr (gH g) (gX g i) w 40 (15 * i)
def XY (g : GG) (w : pw_W) : Prop := ∀ i, i < gC g → pw_I w 60 i = gY g i
def XT (g : GG) (w : pw_W) : Prop := ∀ i, i < gL g → pw_I w 2 i = js_i2b (nI (gP g i))
/-- the words that stand for themselves, as the class writes them -/
def kwS : List (List Nat) := [[112, 101, 114, 115, 111, 110], [102, 105, 114, 109], [108, 101, 97, 114, 110, 115], [108, 117, 109, 112, 115], [109, 101, 101, 116], [111, 110], [98, 114, 111, 116, 104, 101, 114], [99, 111, 111, 108, 115], [114, 111, 117, 110, 100], [98, 101, 100], [102, 108, 97, 114, 101, 115], [100, 114, 97, 119], [111, 114], [97, 110, 100], [110, 111, 116], [111, 119, 110], [111, 116, 104, 101, 114], [115, 111, 114, 101], [100, 97, 121], [119, 101, 101, 107]]
def e27 (l : List Nat) : Nat := l.foldl (fun a c => a * 27 + (c - 96)) 0
def XK (w : pw_W) : Prop := ∀ i, i < 20 → pw_L w 18 i = Int64.ofNat (e27 (kwS.getD i []))
def XR (t : ct_T) : Prop := is_Hamlet t.1 ∧ is_Hamlet t.2.1 ∧ t.1 ≠ t.2.1 ∧ (t.2.2 = 19 ∨ t.2.2 = 2)
def RX (t : ct_T) (g : GG) (w : pw_W) : Prop := w.1 = cs t ∧ XR t ∧ RXH (gH g) w t.1 ∧ RXS (gH g) (gS g) w 35 ∧ XL (gH g) (gR g) (gA g) (gB g) w ∧ XB g w ∧ XSg (gG g) (gN g) (gT g) w ∧ XCh (gH g) w ∧ XY g w ∧ XT g w ∧ XF g w ∧ XK w
theorem XB.ag {g : GG} {w w' : pw_W} {S : List Nat} (hn : aNp (gH g) ≤ 6) (hB : XB g w) (ha : ag S w w') (n : 40 ∉ S) : XB g w' := fun i h1 h2 => (hB i h1 h2).ag hn ha n
theorem XY.ag {g : GG} {w w' : pw_W} {S : List Nat} (hB : XY g w) (ha : ag S w w') (n : 60 ∉ S) : XY g w' := fun i h1 => (ha.I n _).trans (hB i h1)
theorem XT.ag {g : GG} {w w' : pw_W} {S : List Nat} (hB : XT g w) (ha : ag S w w') (n : 2 ∉ S) : XT g w' := fun i h1 => (ha.I n _).trans (hB i h1)
theorem XF.ag {g : GG} {w w' : pw_W} {S : List Nat} (hB : XF g w) (ha : ag S w w') (n : 1 ∉ S) : XF g w' := ⟨(ha.I n _).trans hB.1, (ha.I n _).trans hB.2.1, (ha.I n _).trans hB.2.2.1, (ha.I n _).trans hB.2.2.2.1, (ha.I n _).trans hB.2.2.2.2⟩
theorem XK.ag {w w' : pw_W} {S : List Nat} (hB : XK w) (ha : ag S w w') (n : 18 ∉ S) : XK w' := fun i h1 => (ha.L n _).trans (hB i h1)
/-- what a call of the class may use as scratch -/
abbrev xsc (t : ct_T) : List Nat := [41, 42, 43, 44, 45, 47, 56, 57, 58, 59, t.1 + 12]
theorem RX.scr {t : ct_T} {g : GG} {w w' : pw_W} {S : List Nat} (hg : WG g) (hR : RX t g w) (ha : ag S w w') (hs : ∀ a ∈ S, a ∈ xsc t) : RX t g w' := by
  obtain ⟨hw, ht, hH, hS, hL, hB, hG, hC, hY, hT, hF, hK⟩ := hR
  have np := hg.1.1
  have h0 := ht.1
  have n : ∀ a, a ∉ xsc t → a ∉ S := fun a h1 h2 => h1 (hs a h2)
  have fix : ∀ a ∈ [1, 2, 18, 35, 36, 37, 38, 39, 40, 48, 49, 50, 51, 52, 53, 54, 55, 60], a ∉ xsc t := by
    unfold xsc
    rcases h0 with e | e <;> rw [e] <;> decide
  have nh : ∀ k, k ≤ 11 → t.1 + k ∉ xsc t := by
    unfold xsc
    intro k hk
    rcases h0 with e | e <;> rw [e] <;> simp <;> omega
  have m : ∀ a ∈ [1, 2, 18, 35, 36, 37, 38, 39, 40, 48, 49, 50, 51, 52, 53, 54, 55, 60], a ∉ S := fun a h => n a (fix a h)
  exact ⟨ha.1.trans hw, ht, hH.ag ha (fun k hk => n _ (nh k hk)), hS.ag ha (m 35 (by decide)) (m 36 (by decide)) (m 37 (by decide)), hL.ag np ha ⟨m 38 (by decide), m 39 (by decide)⟩, hB.ag np ha (m 40 (by decide)), hG.ag ha (fun a h => m a (by simp at h ⊢; omega)), hC.ag ha ⟨m 48 (by decide), m 55 (by decide)⟩, hY.ag ha (m 60 (by decide)), hT.ag ha (m 2 (by decide)), hF.ag ha (m 1 (by decide)), hK.ag ha (m 18 (by decide))⟩
/-- nothing of the reference has changed -/
def agX (w w' : pw_W) : Prop := ∀ a, 61 ≤ a → pw_I w' a = pw_I w a ∧ pw_L w' a = pw_L w a
/-- nothing of the class has changed -/
def agM (w w' : pw_W) : Prop := w'.1 = w.1 ∧ ∀ a, a < 61 → pw_I w' a = pw_I w a ∧ pw_L w' a = pw_L w a
theorem ag.x {S : List Nat} {w w' : pw_W} (h : ag S w w') (hs : ∀ a ∈ S, a < 61) : agX w w' := fun a ha => h.2 a (fun z => by have := hs a z; omega)
theorem ag.m {S : List Nat} {w w' : pw_W} (h : ag S w w') (hs : ∀ a ∈ S, 61 ≤ a) : agM w w' := ⟨h.1, fun a ha => h.2 a (fun z => by have := hs a z; omega)⟩
theorem agX.rf {w : pw_W} : agX w w := fun _ _ => ⟨rfl, rfl⟩
theorem agX.tr {w w1 w2 : pw_W} (h1 : agX w w1) (h2 : agX w1 w2) : agX w w2 := fun a ha => ⟨(h2 a ha).1.trans (h1 a ha).1, (h2 a ha).2.trans (h1 a ha).2⟩
theorem agM.rf {w : pw_W} : agM w w := ⟨rfl, fun _ _ => ⟨rfl, rfl⟩⟩
theorem agM.tr {w w1 w2 : pw_W} (h1 : agM w w1) (h2 : agM w1 w2) : agM w w2 := ⟨h2.1.trans h1.1, fun a ha => ⟨(h2.2 a ha).1.trans (h1.2 a ha).1, (h2.2 a ha).2.trans (h1.2 a ha).2⟩⟩
theorem xsc_x {t : ct_T} (ht : XR t) : ∀ a ∈ xsc t, a < 61 := by
  unfold xsc
  rcases ht.1 with e | e <;> rw [e] <;> decide
/-! the reference -/
def RMr (h : aH) (s : aS) (w : pw_W) (a o : Nat) : Prop := (∀ i, i < aNp h → pw_I w a (o + 6 + i) = nI (sL s i)) ∧ (∀ i, i < aNp h → pw_I w a (o + i) = nI (sF s i)) ∧ pw_I w a (o + 12) = nI (sB s) ∧ pw_I w a (o + 13) = nI (sD s) ∧ pw_I w a (o + 14) = nI (sE s)
theorem RMr.eqv {h : aH} {s : aS} {w w' : pw_W} {a a' o o' : Nat} (hn : aNp h ≤ 6) (hR : RMr h s w a o) (e : ∀ k, k < 15 → pw_I w' a' (o' + k) = pw_I w a (o + k)) : RMr h s w' a' o' :=
  ⟨fun i hi => by rw [show o' + 6 + i = o' + (6 + i) by omega, e (6 + i) (by omega), show o + (6 + i) = o + 6 + i by omega]; exact hR.1 i hi, fun i hi => (e i (by omega)).trans (hR.2.1 i hi), (e 12 (by omega)).trans hR.2.2.1, (e 13 (by omega)).trans hR.2.2.2.1, (e 14 (by omega)).trans hR.2.2.2.2⟩
theorem RMS.r {h : aH} {s : aS} {w w' : pw_W} {a b o : Nat} (hn : aNp h ≤ 6) (hS : RMS h s w a) (e : ∀ k, k < 15 → pw_I w' b (o + k) = pw_I w a k) : RMr h s w' b o :=
  ⟨fun i hi => by rw [show o + 6 + i = o + (6 + i) by omega, e (6 + i) (by omega)]; exact hS.1 i hi, fun i hi => (e i (by omega)).trans (hS.2.1 i hi), (e 12 (by omega)).trans hS.2.2.1, (e 13 (by omega)).trans hS.2.2.2.1, (e 14 (by omega)).trans hS.2.2.2.2⟩
theorem RMr.s {h : aH} {s : aS} {w w' : pw_W} {a b o : Nat} (hn : aNp h ≤ 6) (hR : RMr h s w b o) (e : ∀ k, k < 15 → pw_I w' a k = pw_I w b (o + k)) : RMS h s w' a :=
  ⟨fun i hi => by rw [e (6 + i) (by omega), show o + (6 + i) = o + 6 + i by omega]; exact hR.1 i hi, fun i hi => (e i (by omega)).trans (hR.2.1 i hi), (e 12 (by omega)).trans hR.2.2.1, (e 13 (by omega)).trans hR.2.2.2.1, (e 14 (by omega)).trans hR.2.2.2.2⟩
/-- worlds that agree but in some cells and in some fields of the reference -/
def agF (S F : List Nat) (w w' : pw_W) : Prop := w'.1 = w.1 ∧ ∀ a b, a ∉ S → (a = 61 → b ∉ F) → pw_I w' a b = pw_I w a b ∧ pw_L w' a b = pw_L w a b
theorem agF.rf {S F : List Nat} {w : pw_W} : agF S F w w := ⟨rfl, fun _ _ _ _ => ⟨rfl, rfl⟩⟩
theorem agF.tr {S F : List Nat} {w w1 w2 : pw_W} (h1 : agF S F w w1) (h2 : agF S F w1 w2) : agF S F w w2 := ⟨h2.1.trans h1.1, fun a b ha hb => ⟨(h2.2 a b ha hb).1.trans (h1.2 a b ha hb).1, (h2.2 a b ha hb).2.trans (h1.2 a b ha hb).2⟩⟩
theorem agF.of {S F : List Nat} {w w' : pw_W} (h : ag S w w') : agF S F w w' := ⟨h.1, fun a b ha _ => ⟨by rw [(h.2 a ha).1], by rw [(h.2 a ha).2]⟩⟩
theorem agF.mono {S F S' F' : List Nat} {w w' : pw_W} (h : agF S F w w') (hs : ∀ a ∈ S, a ∈ S') (hf : ∀ a ∈ F, a ∈ F') : agF S' F' w w' := ⟨h.1, fun a b ha hb => h.2 a b (fun z => ha (hs a z)) (fun e z => hb e (hf b z))⟩
theorem agF.sI {S F : List Nat} {w : pw_W} {k : Nat} {v : Int32} (h : k ∈ F) : agF S F w (pw_sI w 61 k v) := ⟨rfl, fun a b _ hb => ⟨by rw [pw_oth (fun z1 z2 => hb z1 (by rw [z2]; exact h))], rfl⟩⟩
theorem agF.sL {S F : List Nat} {w : pw_W} {k : Nat} {v : Int64} (h : k ∈ F) : agF S F w (pw_sL w 61 k v) := ⟨rfl, fun a b _ hb => ⟨rfl, by rw [pw_L_sL, if_neg (fun z => hb z.1 (by rw [z.2]; exact h))]⟩⟩
theorem agF.sC {S F : List Nat} {w : pw_W} {r k : Nat} {v : Int32} (h : r ∈ S) : agF S F w (pw_sI w r k v) := agF.of (ag.sI h)
theorem agF.I {S F : List Nat} {w w' : pw_W} (h : agF S F w w') {a : Nat} (ha : a ∉ S) (h61 : a ≠ 61) (k : Nat) : pw_I w' a k = pw_I w a k := (h.2 a k ha (fun z => absurd z h61)).1
theorem agF.L {S F : List Nat} {w w' : pw_W} (h : agF S F w w') {a : Nat} (ha : a ∉ S) (h61 : a ≠ 61) (k : Nat) : pw_L w' a k = pw_L w a k := (h.2 a k ha (fun z => absurd z h61)).2
theorem agF.F {S F : List Nat} {w w' : pw_W} (h : agF S F w w') (ha : 61 ∉ S) {k : Nat} (hk : k ∉ F) : pw_I w' 61 k = pw_I w 61 k := (h.2 61 k ha (fun _ => hk)).1
theorem agF.m {S F : List Nat} {w w' : pw_W} (h : agF S F w w') (hs : ∀ a ∈ S, 61 ≤ a) : agM w w' := ⟨h.1, fun a ha => ⟨funext fun b => (h.2 a b (fun z => by have := hs a z; omega) (fun z => by omega)).1, funext fun b => (h.2 a b (fun z => by have := hs a z; omega) (fun z => by omega)).2⟩⟩
theorem RMS.agF {h : aH} {s : aS} {w w' : pw_W} {a : Nat} {S F : List Nat} (hn : aNp h ≤ 6) (hS : RMS h s w a) (ha : agF S F w w') (n : a ∉ S) (n61 : a ≠ 61) : RMS h s w' a := hS.cp hn (fun j _ => ha.I n n61 _)
theorem RMr.agF {h : aH} {s : aS} {w w' : pw_W} {a o : Nat} {S F : List Nat} (hn : aNp h ≤ 6) (hS : RMr h s w a o) (ha : agF S F w w') (n : a ∉ S) (n61 : a ≠ 61) : RMr h s w' a o := hS.eqv hn (fun j _ => ha.I n n61 _)
theorem RMR.agF {h : aH} {ro : Nat → Nat} {w w' : pw_W} {S F : List Nat} (hR : RMR h ro w) (ha : agF S F w w') (n : 87 ∉ S) : RMR h ro w' := fun b hb k hk => (ha.I n (by decide) _).trans (hR b hb k hk)
theorem RMH.agF {h : aH} {w w' : pw_W} {S F : List Nat} (hH : RMH h w) (ha : agF S F w w') (n : ∀ a ∈ [61, 66, 67, 80, 81, 82, 83, 84, 85, 86, 88], a ∉ S) (f : ∀ a ∈ [18, 21, 25, 51, 52, 53, 54, 55, 56], a ∉ F) : RMH h w' := by
  have n0 : 61 ∉ S := n 61 (by decide)
  refine ⟨⟨(ha.F n0 (f 51 (by decide))).trans hH.1.1, (ha.F n0 (f 52 (by decide))).trans hH.1.2.1, (ha.F n0 (f 53 (by decide))).trans hH.1.2.2.1, (ha.F n0 (f 54 (by decide))).trans hH.1.2.2.2.1, (ha.F n0 (f 55 (by decide))).trans hH.1.2.2.2.2.1, (ha.F n0 (f 56 (by decide))).trans hH.1.2.2.2.2.2.1, (ha.F n0 (f 21 (by decide))).trans hH.1.2.2.2.2.2.2⟩, fun i hi => ?_, fun i hi => ?_, fun b hb => ?_, ?_⟩
  · rw [ha.I (n 80 (by decide)) (by decide), ha.I (n 81 (by decide)) (by decide), ha.I (n 82 (by decide)) (by decide)]; exact hH.2.1 i hi
  · rw [ha.I (n 83 (by decide)) (by decide), ha.I (n 84 (by decide)) (by decide), ha.I (n 85 (by decide)) (by decide)]; exact hH.2.2.1 i hi
  · rw [ha.I (n 86 (by decide)) (by decide), ha.I (n 88 (by decide)) (by decide)]; exact hH.2.2.2.1 b hb
  · rcases hH.2.2.2.2 with ⟨h1, h2⟩ | ⟨h1, h2, h3⟩
    · exact Or.inl ⟨(ha.F n0 (f 25 (by decide))).trans h1, h2⟩
    · exact Or.inr ⟨(ha.F n0 (f 25 (by decide))).trans h1, (ha.F n0 (f 18 (by decide))).trans h2, fun i hi => by rw [ha.I (n 66 (by decide)) (by decide), ha.I (n 67 (by decide)) (by decide)]; exact h3 i hi⟩
def ML (h : aH) (R : Nat → aS) (a b : Nat) (w : pw_W) : Prop := ∀ i, i < b → RMr h (if i < a then R i else R (i + 1)) w 91 (15 * i)
def MB (g : GG) (w : pw_W) : Prop := ∀ i, i < 3 → pw_I w 106 i = jb ((gU g).testBit i = true) ∧ ((gU g).testBit i = true → RMr (gH g) (gX g i) w 107 (15 * i))
def MSg (g : aG) (n : Nat) (w : pw_W) : Prop := ∀ j, j < n → pw_I w 97 j = nI (g 0 j) ∧ pw_I w 98 j = nI (g 1 j) ∧ pw_I w 99 j = nI (g 2 j) ∧ pw_I w 102 j = nI (g 3 j) ∧ pw_I w 100 j = nI (g 4 j) ∧ pw_I w 101 j = aU (g 5 j)
def MY (g : GG) (w : pw_W) : Prop := ∀ i, i < gC g → pw_I w 92 i = gY g i
def MT (g : GG) (w : pw_W) : Prop := ∀ i, i < gL g → pw_I w 62 i = nI (gP g i)
def MF (g : GG) (w : pw_W) : Prop := pw_I w 61 1 = nI (gL g) ∧ pw_I w 61 2 = gK g ∧ pw_I w 61 3 = gF g ∧ pw_I w 61 63 = nI (gA g) ∧ pw_I w 61 64 = nI (gB g - gA g) ∧ pw_I w 61 68 = nI (gC g) ∧ pw_I w 61 78 = nI (gN g) ∧ pw_I w 61 79 = nI (gT g)
def RM (g : GG) (w : pw_W) : Prop := RMH (gH g) w ∧ RMS (gH g) (gS g) w 89 ∧ RMR (gH g) (aRo (gH g)) w ∧ ML (gH g) (gR g) (gA g) (gB g) w ∧ MB g w ∧ MSg (gG g) (gN g) w ∧ MY g w ∧ MT g w ∧ MF g w
theorem ML.agF {h : aH} {R : Nat → aS} {a b : Nat} {w w' : pw_W} {S F : List Nat} (hn : aNp h ≤ 6) (hL : ML h R a b w) (ha : agF S F w w') (n : 91 ∉ S) : ML h R a b w' := fun i hi => (hL i hi).agF hn ha n (by decide)
theorem MB.agF {g : GG} {w w' : pw_W} {S F : List Nat} (hn : aNp (gH g) ≤ 6) (hB : MB g w) (ha : agF S F w w') (n : 106 ∉ S ∧ 107 ∉ S) : MB g w' := fun i hi => ⟨(ha.I n.1 (by decide) _).trans (hB i hi).1, fun z => ((hB i hi).2 z).agF hn ha n.2 (by decide)⟩
theorem MSg.agF {g : aG} {k : Nat} {w w' : pw_W} {S F : List Nat} (hG : MSg g k w) (ha : agF S F w w') (n : ∀ a ∈ [97, 98, 99, 100, 101, 102], a ∉ S) : MSg g k w' := fun j hj => by
  rw [ha.I (n 97 (by decide)) (by decide), ha.I (n 98 (by decide)) (by decide), ha.I (n 99 (by decide)) (by decide), ha.I (n 100 (by decide)) (by decide), ha.I (n 101 (by decide)) (by decide), ha.I (n 102 (by decide)) (by decide)]
  exact hG j hj
theorem MY.agF {g : GG} {w w' : pw_W} {S F : List Nat} (hY : MY g w) (ha : agF S F w w') (n : 92 ∉ S) : MY g w' := fun i hi => (ha.I n (by decide) _).trans (hY i hi)
theorem MT.agF {g : GG} {w w' : pw_W} {S F : List Nat} (hY : MT g w) (ha : agF S F w w') (n : 62 ∉ S) : MT g w' := fun i hi => (ha.I n (by decide) _).trans (hY i hi)
theorem MF.agF {g : GG} {w w' : pw_W} {S F : List Nat} (hF : MF g w) (ha : agF S F w w') (n : 61 ∉ S) (f : ∀ a ∈ [1, 2, 3, 63, 64, 68, 78, 79], a ∉ F) : MF g w' :=
  ⟨(ha.F n (f 1 (by decide))).trans hF.1, (ha.F n (f 2 (by decide))).trans hF.2.1, (ha.F n (f 3 (by decide))).trans hF.2.2.1, (ha.F n (f 63 (by decide))).trans hF.2.2.2.1, (ha.F n (f 64 (by decide))).trans hF.2.2.2.2.1, (ha.F n (f 68 (by decide))).trans hF.2.2.2.2.2.1, (ha.F n (f 78 (by decide))).trans hF.2.2.2.2.2.2.1, (ha.F n (f 79 (by decide))).trans hF.2.2.2.2.2.2.2⟩
/-- what the reference may use as scratch -/
abbrev msc : List Nat := [63, 64, 65, 68, 69, 70, 71, 72, 73, 74, 75, 76, 77, 78, 79, 90, 93, 94, 95, 96, 103, 104, 105]
abbrev msf : List Nat := [4, 5, 6, 7, 8, 9, 17, 19, 20, 22, 23, 24, 45, 46, 47, 48, 49, 50, 57, 58, 59, 69]
theorem RM.scrF {g : GG} {w w' : pw_W} {S F : List Nat} (hg : WG g) (hR : RM g w) (ha : agF S F w w') (hs : ∀ a ∈ S, a ∈ msc) (hf : ∀ a ∈ F, a ∈ msf) : RM g w' := by
  obtain ⟨hH, hS, hO, hL, hB, hG, hY, hT, hF⟩ := hR
  have np := hg.1.1
  have n : ∀ a, a ∉ msc → a ∉ S := fun a h1 h2 => h1 (hs a h2)
  have f : ∀ a, a ∉ msf → a ∉ F := fun a h1 h2 => h1 (hf a h2)
  exact ⟨hH.agF ha (fun a h => n a (by revert a; decide)) (fun a h => f a (by revert a; decide)), hS.agF np ha (n _ (by decide)) (by decide), hO.agF ha (n _ (by decide)), hL.agF np ha (n _ (by decide)), hB.agF np ha ⟨n _ (by decide), n _ (by decide)⟩, hG.agF ha (fun a h => n a (by revert a; decide)), hY.agF ha (n _ (by decide)), hT.agF ha (n _ (by decide)), hF.agF ha (n _ (by decide)) (fun a h => f a (by revert a; decide))⟩
theorem RM.scr {g : GG} {w w' : pw_W} {S : List Nat} (hg : WG g) (hR : RM g w) (ha : ag S w w') (hs : ∀ a ∈ S, a ∈ msc) : RM g w' := hR.scrF (F := []) hg (agF.of ha) hs (fun a h => absurd h List.not_mem_nil)
theorem msc_m : ∀ a ∈ msc, 61 ≤ a := by decide
theorem RM.agX {g : GG} {w w' : pw_W} (hR : RM g w) (ha : agX w w') : RM g w' := by
  have e : ∀ a, 61 ≤ a → ∀ b, pw_I w' a b = pw_I w a b := fun a h b => by rw [(ha a h).1]
  obtain ⟨hH, hS, hO, hL, hB, hG, hY, hT, hF⟩ := hR
  refine ⟨⟨?_, ?_, ?_, ?_, ?_⟩, ?_, ?_, ?_, ?_, ?_, ?_, ?_, ?_⟩
  · rw [e 61 (by decide), e 61 (by decide), e 61 (by decide), e 61 (by decide), e 61 (by decide), e 61 (by decide), e 61 (by decide)]; exact hH.1
  · intro i hi; rw [e 80 (by decide), e 81 (by decide), e 82 (by decide)]; exact hH.2.1 i hi
  · intro i hi; rw [e 83 (by decide), e 84 (by decide), e 85 (by decide)]; exact hH.2.2.1 i hi
  · intro i hi; rw [e 86 (by decide), e 88 (by decide)]; exact hH.2.2.2.1 i hi
  · rcases hH.2.2.2.2 with ⟨h1, h2⟩ | ⟨h1, h2, h3⟩
    · exact Or.inl ⟨(e 61 (by decide) _).trans h1, h2⟩
    · exact Or.inr ⟨(e 61 (by decide) _).trans h1, (e 61 (by decide) _).trans h2, fun i hi => by rw [e 66 (by decide), e 67 (by decide)]; exact h3 i hi⟩
  · unfold RMS; rw [(ha 89 (by decide)).1]; exact hS
  · intro b hb k hk; rw [e 87 (by decide)]; exact hO b hb k hk
  · intro i hi; unfold RMr; rw [(ha 91 (by decide)).1]; exact hL i hi
  · intro i hi; unfold RMr; rw [(ha 106 (by decide)).1, (ha 107 (by decide)).1]; exact hB i hi
  · intro j hj; rw [e 97 (by decide), e 98 (by decide), e 99 (by decide), e 100 (by decide), e 101 (by decide), e 102 (by decide)]; exact hG j hj
  · intro i hi; rw [e 92 (by decide)]; exact hY i hi
  · intro i hi; rw [e 62 (by decide)]; exact hT i hi
  · unfold MF; rw [(ha 61 (by decide)).1]; exact hF
theorem RX.agM {t : ct_T} {g : GG} {w w' : pw_W} (hg : WG g) (hR : RX t g w) (ha : agM w w') : RX t g w' := by
  obtain ⟨hw, ht, hH, hS, hL, hB, hG, hC, hY, hT, hF, hK⟩ := hR
  have np := hg.1.1
  have A : ag (List.range 10000 |>.drop 61) w w ∨ True := Or.inr trivial
  have e : ∀ a, a < 61 → ∀ b, pw_I w' a b = pw_I w a b := fun a h b => by rw [(ha.2 a h).1]
  have h0 : t.1 + 11 < 61 := by rcases ht.1 with z | z <;> rw [z] <;> decide
  refine ⟨ha.1.trans hw, ht, ⟨?_, ?_, ?_, ?_, ?_, ?_, ?_, ?_⟩, ?_, ⟨?_, ?_, ?_⟩, ?_, ⟨?_, ?_, ?_, ?_⟩, ?_, ?_, ?_, ?_, ?_⟩
  · rw [e _ (by omega), e _ (by omega), e _ (by omega), e _ (by omega), e _ (by omega), e _ (by omega)]; exact hH.1
  · intro i hi; rw [e _ (by omega), e _ (by omega), e _ (by omega)]; exact hH.2.1 i hi
  · intro i hi; rw [e _ (by omega), e _ (by omega), e _ (by omega)]; exact hH.2.2.1 i hi
  · intro i hi; rw [e _ (by omega), e _ (by omega)]; exact hH.2.2.2.1 i hi
  · intro b hb k hk; rw [e _ (by omega)]; exact hH.2.2.2.2.1 b hb k hk
  · rw [e _ (by omega)]; exact hH.2.2.2.2.2.1
  · rw [e _ (by omega)]; exact hH.2.2.2.2.2.2.1
  · intro i hi; rw [e _ (by omega)]; exact hH.2.2.2.2.2.2.2 i hi
  · unfold RXS; rw [(ha.2 35 (by decide)).1, (ha.2 (35 + 1) (by decide)).1, (ha.2 (35 + 2) (by decide)).1]; exact hS
  · rw [e _ (by decide)]; exact hL.1
  · rw [e _ (by decide)]; exact hL.2.1
  · intro i hi; unfold RXr; rw [(ha.2 39 (by decide)).1]; exact hL.2.2 i hi
  · intro i h1 h2; unfold RXr; rw [(ha.2 40 (by decide)).1]; exact hB i h1 h2
  · rw [e _ (by decide)]; exact hG.1
  · rw [e _ (by decide)]; exact hG.2.1
  · intro c hc j hj; rw [e _ (by omega)]; exact hG.2.2.1 c hc j hj
  · intro j hj; rw [e _ (by decide)]; exact hG.2.2.2 j hj
  · rcases hC with z | ⟨z1, z2⟩
    · exact Or.inl ((e _ (by decide) _).trans z)
    · exact Or.inr ⟨(e _ (by decide) _).trans z1, fun v h1 d h2 p h3 => (e _ (by decide) _).trans (z2 v h1 d h2 p h3)⟩
  · intro i hi; rw [e _ (by decide)]; exact hY i hi
  · intro i hi; rw [e _ (by decide)]; exact hT i hi
  · unfold XF; rw [(ha.2 1 (by decide)).1]; exact hF
  · intro i hi; rw [(ha.2 18 (by decide)).2]; exact hK i hi
