section LPR
variable {E : px_E} {d : Nat} {w : pw_W} {t : ct_T} {g : GG}
theorem inr_one {α β : Type} {x : α ⊕ β} {a b : β} (h1 : x = .inr a) (h2 : x = .inr b) : a = b := by
  rw [h1] at h2; exact Sum.inr.inj h2
theorem inl_one {α β : Type} {x : α ⊕ β} {a b : α} (h1 : x = .inl a) (h2 : x = .inl b) : a = b := by
  rw [h1] at h2; exact Sum.inl.inj h2
theorem inlr_no {α β : Type} {x : α ⊕ β} {a : α} {b : β} (h1 : x = .inl a) (h2 : x = .inr b) : False := by
  rw [h1] at h2; cases h2
theorem tw_hamlet (hg : WG g) (hX : RX t g w) (hM : RM g w) : lTwo E d mX9_hamlet mX10_hamlet [] w := by
  unfold lTwo
  refine tX9_hamlet (d := d) hg hX (fun D' hA hD t1 w1 x1 a1 => ?_) (fun e hA he t1 w1 x1 a1 => ?_)
  · have hw : WG (gHam g (dH D')) := hg.ham hD.1
    refine ⟨nI (aNp (dH D')), t1, rfl, x1.1, ?_⟩
    refine tX10_hamlet (d := d + 111) x1.1 hg (hM.agX a1) (fun D2 h2 w2 m2 a2 => ?_) (fun e2 h2 => (inlr_no h2 hA).elim)
    have e := inr_one hA h2
    subst e
    exact ⟨rfl, t1, gHam g (dH D'), hw, x1.agM hw a2, m2⟩
  · have hw : WG (gFlt g e) := hg.flt
    refine ⟨-1, t1, rfl, x1.1, ?_⟩
    refine tX10_hamlet (d := d + 111) x1.1 hg (hM.agX a1) (fun D2 h2 => (inlr_no hA h2).elim) (fun e2 h2 w2 m2 a2 => ?_)
    have e := inl_one hA h2
    subst e
    exact ⟨rfl, t1, gFlt g _, hw, x1.agM hw a2, m2⟩
end LPR
