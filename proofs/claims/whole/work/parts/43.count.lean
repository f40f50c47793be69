/-! count -/
set_option maxHeartbeats 4000000 in
set_option maxRecDepth 100000 in
theorem p_count (x1 : Int32) : zPr 92 174 [zi x1] := by
  intro d I rl rs hR
  have hR0 := hR
  obtain ⟨n, k, t, ⟨b1, b2, ⟨m1, b3⟩, ⟨m2, b4⟩, ⟨m3, b5⟩, b6⟩, -, -, ⟨r, r1, r2, r3, r4⟩, -, -⟩ := hR0
  have mrun : ∀ (w : Nat), w ≤ 4 → ∀ v : Int32, v = I 40 0 w → ∀ rl' rs', zWm (d + 12) 174 [zr 10 0, zi (nI w)] I (zRR rl' rs') (fun v2 I2 G2 => some (zi v) = v2 ∧ zRel I2 ∧ ∃ rl2 rs2, G2 = zRR rl2 rs2) := by
    intro w hw v hv rl' rs'
    refine z_auto rfl ?_
    refine z_br rfl (fun c => ?_) (fun c => ?_)
    · refine z_auto rfl ?_
      refine z_cl rfl (m_in_y (lo := 0) (hi := 4) (Nat.zero_le _) hw (by decide) ?_)
      refine z_auto rfl ?_
      refine z_st rfl ?_
      refine z_auto rfl ?_
      refine z_ald (k := w) rfl rfl (by show w < 937; omega) ?_
      refine z_auto rfl ?_
      refine z_jp rfl ?_
      refine z_auto rfl ?_
      exact z_rt rfl (zPr_o2 (by rw [hv]) hR)
    · exact absurd ((nI_eq (a := w) (b := 5) (by omega) (by decide)).mp (Classical.not_not.mp c)) (by omega)
  rcases n_cases x1 5 (by decide) with ⟨w, hw, rfl⟩ | hx
  · rcases w with _ | _ | _ | _ | _ | _ | w
    · refine z_auto rfl ?_
      refine z_jp rfl ?_
      refine z_auto rfl ?_
      exact z_rt rfl (zPr_i (mrun 0 (by decide) _ (b1.1.trans b1.2.1.symm)))
    · refine z_auto rfl ?_
      refine z_jp rfl ?_
      refine z_auto rfl ?_
      exact z_rt rfl (zPr_i (mrun 1 (by decide) _ (b2.1.trans b2.2.1.symm)))
    · refine z_auto rfl ?_
      refine z_jp rfl ?_
      refine z_auto rfl ?_
      exact z_rt rfl (zPr_i (mrun 2 (by decide) _ (b3.1.trans b3.2.1.symm)))
    · refine z_auto rfl ?_
      refine z_jp rfl ?_
      refine z_auto rfl ?_
      exact z_rt rfl (zPr_i (mrun 3 (by decide) _ (b4.1.trans b4.2.1.symm)))
    · refine z_auto rfl ?_
      refine z_jp rfl ?_
      refine z_auto rfl ?_
      exact z_rt rfl (zPr_i (mrun 4 (by decide) _ (b5.1.trans b5.2.1.symm)))
    · refine z_auto rfl ?_
      refine z_jp rfl ?_
      refine z_auto rfl ?_
      refine z_rt rfl (zPr_i (fun rl' rs' => ?_))
      refine z_auto rfl ?_
      refine z_st rfl ?_
      refine z_auto rfl ?_
      refine z_jp rfl ?_
      refine z_auto rfl ?_
      exact z_rt rfl (zPr_o2 (by rw [r2, r3]) hR)
    · omega
  · refine z_auto rfl ?_
    refine z_sw rfl (fun q hq hx2 => ?_) (fun hn => ?_)
    · exfalso
      have hq : q ∈ [((0 : Int32), 1), (1, 2), (2, 3), (3, 4), (4, 5), (5, 6)] := hq
      simp only [List.mem_cons, List.not_mem_nil, or_false] at hq
      rcases hq with rfl | rfl | rfl | rfl | rfl | rfl <;> (subst hx2; revert hx; decide)
    · refine z_auto rfl ?_
      refine z_rt rfl (zPr_i (fun rl' rs' => ?_))
      refine z_auto rfl ?_
      refine z_br rfl (fun c => ?_) (fun c => ?_)
      · refine z_auto rfl ?_
        refine z_cl rfl (m_in_n (hx.imp id (fun q => Int32.lt_trans (by decide) q)) ?_)
        refine z_auto rfl ?_
        refine z_jp rfl ?_
        refine z_auto rfl ?_
        refine z_jp rfl ?_
        refine z_auto rfl ?_
        exact z_rt rfl (zPr_o hR)
      · exfalso
        have c := Classical.not_not.mp c
        subst c
        revert hx
        decide
