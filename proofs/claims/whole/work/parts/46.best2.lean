/-! best -/
/-- the best side so far and its force -/
noncomputable def fBs (g : Nat → Int32) : Nat → Nat × Int32
  | 0 => (0, 100000)
  | m + 1 => if g m < (fBs g m).2 then (m, g m) else fBs g m
section
variable {d : Nat} {I : zMI} {rl rs : Option (Nat × Nat)} {Q : zPQ} {G : zMR} {n k t : Nat} {C : List zCl}
set_option maxHeartbeats 4000000 in
set_option maxRecDepth 100000 in
theorem m_best {J : zMI} (hS : zSt8 I C n k t) (hJ : zFr I J) (h14 : I 10 0 14 = 0) (h15 : I 10 0 15 = 0) {f w : Nat} (hf : f ≤ 20) (hw : w ≤ 1) (h : ∀ K, zFM J K → Q (some (zi (if w = 0 then nI (fBs (fun a => fFo I C n t (nI f) (nI a) 0 0) 4).1 else (fBs (fun a => fFo I C n t (nI f) (nI a) 0 0) 4).2))) K (zRR rl rs)) : zWm (d + 12) 147 [zr 10 0, zi (nI f), zi (nI w)] J (zRR rl rs) Q := by
  have loop : ∀ m i, i + m = 4 → ∀ K, zFM J K → ∀ u6, zW (d + 12) kX10_best (zblk kX10_best 3) [some (zr 10 0), some (zi (nI f)), some (zi (nI w)), some (zi (nI (fBs (fun a => fFo I C n t (nI f) (nI a) 0 0) i).1)), some (zi (fBs (fun a => fFo I C n t (nI f) (nI a) 0 0) i).2), some (zi (nI i)), u6] [] K (zRR rl rs) Q := by
    intro m
    induction m with
    | zero =>
      intro i hi K hK u6
      have : i = 4 := by omega
      subst this
      refine z_auto rfl ?_
      refine z_jp rfl ?_
      rcases w with _ | _ | w
      · refine z_auto rfl ?_
        refine z_st rfl ?_
        refine z_auto rfl ?_
        refine z_jp rfl ?_
        refine z_auto rfl ?_
        exact z_rt rfl (h K hK)
      · refine z_auto rfl ?_
        refine z_jp rfl ?_
        refine z_auto rfl ?_
        refine z_jp rfl ?_
        refine z_auto rfl ?_
        exact z_rt rfl (h K hK)
      · omega
    | succ m ih =>
      intro i hi K hK u6
      refine z_auto rfl ?_
      refine z_br rfl (fun c => ?_) (fun c => ?_)
      · exact absurd c (Int32.not_le.mpr (nI_lt (a := i) (b := 4) (by omega) (by decide)))
      · refine z_auto rfl ?_
        refine z_cl rfl (m_fa hS ((zFa.r hJ).tr (zFa.M hK)) hf (by decide : 0 ≤ 100) ((zFM_15 hK).trans ((zFr_15 hJ).trans h15)) ((zFM_14 hK).trans ((zFr_14 hJ).trans h14)) (fun L hL _ _ _ => ?_))
        have h5 := ih (i + 1) (by omega) L (hK.tr hL)
        rw [fBs, nI_succ] at h5
        refine z_auto rfl ?_
        refine z_br rfl (fun c2 => ?_) (fun c2 => ?_)
        · simp only [if_neg (show ¬ fFo I C n t (nI f) (nI i) 0 0 < (fBs (fun a => fFo I C n t (nI f) (nI a) 0 0) i).2 from Int32.not_lt.mpr c2)] at h5
          refine z_auto rfl ?_
          refine z_jp rfl ?_
          refine z_auto rfl ?_
          refine z_br rfl (fun c3 => ?_) (fun c3 => ?_)
          · refine z_auto rfl ?_
            refine z_jp rfl ?_
            refine z_auto rfl ?_
            refine z_jp rfl ?_
            exact h5 _
          · exact absurd c2 c3
        · simp only [if_pos (show fFo I C n t (nI f) (nI i) 0 0 < (fBs (fun a => fFo I C n t (nI f) (nI a) 0 0) i).2 from Int32.not_le.mp c2)] at h5
          refine z_auto rfl ?_
          refine z_jp rfl ?_
          refine z_auto rfl ?_
          refine z_br rfl (fun c3 => ?_) (fun c3 => ?_)
          · exact absurd c3 c2
          · refine z_auto rfl ?_
            refine z_jp rfl ?_
            refine z_auto rfl ?_
            refine z_jp rfl ?_
            exact h5 _
  refine z_auto rfl ?_
  refine z_cl rfl (m_isFloor_y hf ?_)
  refine z_auto rfl ?_
  refine z_st rfl ?_
  refine z_auto rfl ?_
  refine z_cl rfl (m_in_y (lo := 0) (hi := 1) (Nat.zero_le _) hw (by decide) ?_)
  refine z_auto rfl ?_
  refine z_jp rfl ?_
  refine z_auto rfl ?_
  refine z_jp rfl ?_
  exact loop 4 0 rfl J zFM.rf _
end
