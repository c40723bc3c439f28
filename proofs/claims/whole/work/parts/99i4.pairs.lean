section LPR
variable {E : px_E} {d : Nat} {w : pw_W} {t : ct_T} {g : GG}
theorem RM_lie0 {y z : Nat → Int32} {c : Nat} {w : pw_W} (hc : c = 0) (h : RM (gLie g y c) w) : RM (gLie g z c) w := by
  subst hc
  obtain ⟨r1, r2, r3, r4, r5, r6, r7, r8⟩ := h
  exact ⟨r1, r2, r3, r4, r5, r6, fun i hi => absurd hi (Nat.not_lt_zero i), r8⟩
theorem tw_evenings (hg : WG g) (hX : RX t g w) (hM : RM g w) : lTwo E d mX9_evenings mX10_evenings [] w := by
  refine tX9_evenings (d := d + 100) hg hX (fun w1 m x hv x1 b1 => ?_)
  refine ⟨_, t, rfl, x1.1, tX10_evenings (d := d + 100) x1.1 hg (hM.agX b1) (fun w2 m' x' hu m2 a2 => ?_)⟩
  have hw : WG (gEvn g m x) := hg.lie hg.1.1
  rcases hv with ⟨n0, e0⟩ | ⟨n1, v1, v2, v3, v4, v5, v6⟩
  · rcases hu with ⟨-, e1⟩ | ⟨n2, -⟩
    · subst e0
      subst e1
      exact ⟨rfl, t, gEvn g 0 x, hw, x1.agM hw a2, RM_lie0 n0 m2⟩
    · omega
  · rcases hu with ⟨n2, -⟩ | ⟨n2, u1, u2, u3, u4, u5, u6⟩
    · omega
    · have em : m = m' := by
        rcases Nat.lt_trichotomy m m' with q | q | q
        · exact absurd v4 (u6 m v1 q x v3)
        · exact q
        · exact absurd u4 (v6 m' u1 q x' u3)
      subst em
      have ex : x = x' := by
        rcases Nat.lt_trichotomy x x' with q | q | q
        · exact absurd v4 (u5 x q)
        · exact q
        · exact absurd u4 (v5 x' q)
      subst ex
      exact ⟨rfl, t, gEvn g m x, hw, x1.agM hw a2, m2⟩
end LPR
