/-! the model reads clauses -/
def zFz (a : Nat) (I J : zMI) : Prop := ∀ c i k, ¬ (c = 10 ∧ i = 0 ∧ (k = 5 ∨ k = 7 ∨ k = 8)) → ¬ (c = 40 ∧ i = 0 ∧ (k = 222 + a ∨ k = 227 + a ∨ k = 232 + a ∨ (237 + 140 * a ≤ k ∧ k < 377 + 140 * a))) → J c i k = I c i k
def zMk (a : Nat) (I J : zMI) (p : Nat) (C : List zCl) : Prop := zFz a I J ∧ J 10 0 5 = nI p ∧ J 10 0 7 = 0 ∧ J 10 0 8 = nI 0 ∧ J 40 0 (232 + a) = nI (zmf C).length ∧ (∀ k x, (zmf C)[k]? = some x → J 40 0 (237 + 140 * a + k) = x) ∧ J 40 0 (222 + a) = zlast C 0 20 ∧ J 40 0 (227 + a) = zlast C 1 1
def zMw (a : Nat) (I J : zMI) (p : Nat) : Prop := zFz a I J ∧ J 10 0 5 = nI p ∧ J 10 0 7 = 1
theorem zmf_app : ∀ (C : List zCl) (cl : zCl), zmf (C ++ [cl]) = zmf C ++ zmf [cl]
  | [], cl => rfl
  | x :: C, cl => (congrArg (fun l => (if x.1 = 2 then x.2.2.map zms ++ [-10 - nI x.2.1] else if x.1 = 3 then x.2.2.map zms ++ [-200 - nI x.2.1] else []) ++ l) (zmf_app C cl)).trans (List.append_assoc _ _ _).symm
theorem zTm2_J {I J : zMI} {c : Nat → Nat} {N a p : Nat} {C : List zCl} (hI : zTm2 I c N a) (hJ : zMk a I J p C) : zTm2 J c N a := by
  obtain ⟨i1, i2, i3, i4, i5, i6⟩ := hI
  exact ⟨(hJ.1 _ _ _ (by omega) (by omega)).trans i1, i2, i3, fun p hp => (hJ.1 _ _ _ (by omega) (by omega)).trans (i4 p hp), (hJ.1 _ _ _ (by omega) (by omega)).trans i5, i6⟩
theorem zFz_tr {a : Nat} {I J K : zMI} (h1 : zFz a I J) (h2 : zFq a J K) : zFz a I K := fun c i k a1 a2 => (h2 c i k a1 (by omega)).trans (h1 c i k a1 a2)
section
variable {d : Nat} {I J : zMI} {rl rs : Option (Nat × Nat)} {Q : zPQ} {c : Nat → Nat} {N p a o : Nat} {B : List Int32} {C : List zCl}
set_option maxHeartbeats 4000000 in
set_option maxRecDepth 100000 in
theorem m_much (hI : zTm2 I c N a) (hJ : zPq a I J p 0 B) (hp : p ≤ N) (hB : B.length ≤ p) {w j : Nat} {l : List Nat} (hj : j < 6) (hl : zst j = l.map nI) (hw : 2 ≤ w) (ew : fWd (c p) = some (w, l)) {kd : Int32} (h1 : ∀ q n st K, fCla c p = (q, some (w, (n, st))) → n ≤ 99 → zPq a I K q 0 (B ++ (st.map zms ++ [kd - nI n])) → Q none K (zRR rl rs)) (h0 : ∀ q K, fCla c p = (q, none) → zPw a I K q → Q none K (zRR rl rs)) : zWm (15 + d + 6) 123 [zr 10 0, zi kd, zr 60 j] J (zRR rl rs) Q := by
  have i2 := hI.2.1
  have i3 := hI.2.2.1
  obtain ⟨-, w2, w3, w4⟩ := fWd_3 ew
  have hsp := fSp_gd i3 l p hp w3
  refine z_auto rfl ?_
  refine z_cl rfl (m_spells hI hJ hp hj hl w3 w4 (fun q K es hq hK => ?_) (fun q K es hq hK => ?_))
  · rw [es] at hsp
    have hsp3 := hsp.2.2 rfl
    dsimp only at hsp3
    refine z_auto rfl ?_
    refine z_cl rfl (m_figures hI hK hq (fun r n M en hM => ?_) (fun en x M hM => ?_))
    · have hn := fNum_gd i3 hq
      rw [en] at hn
      obtain ⟨n1, n2, n3⟩ := hn
      have n4 := (n3 n rfl).1
      have n5 := (n3 n rfl).2
      dsimp only at n1 n2 n4
      have ec : fCla c p = (if c r = 32 then (match fAny c (fOne c 5) (r + 1) with
        | (s, none) => (s, none)
        | (s, some st) => (s, some (w, (n, st)))) else (r, none)) := by
        rw [fCla, ew]; dsimp only; rw [es]; dsimp only; rw [en]; dsimp only; rw [if_neg (by omega)]
        rfl
      refine z_auto rfl ?_
      refine z_cl rfl (m_must hI hM n1 (x := 32) (by decide) (fun e3 P hP => ?_) (fun e3 P hP => ?_))
      · have c1 : r < N := (i3 r).mp (by omega)
        have hgp := fAny_gd i3 (fOne_gd i3 5) (r + 1) c1
        rw [if_pos e3] at ec
        have hev := m_every (d := 15 + d + 2) (o := 0) (rl := rl) (rs := rs) hI (fOne_gd i3 5) (m_one hI 5 (by decide) d)
        have hso := m_some hI (fPar_gd i3 (fOne_gd i3 5) (x := 38) (y := 1501) (by decide) (Or.inl rfl)) hev
        refine z_auto rfl ?_
        refine z_cl rfl (hso P (r + 1) B _ hP c1 (by omega) (fun t st R e4 hR => ?_) (fun t R e4 hR => ?_))
        · have e4 : fAny c (fOne c 5) (r + 1) = (t, some st) := e4
          rw [e4] at ec hgp
          obtain ⟨g1, g2, g3⟩ := hgp
          obtain ⟨g4, g5, g6⟩ := g3 st rfl
          dsimp only at g1 g2 g4 g5
          refine z_auto rfl ?_
          refine z_cl rfl (m_emits hI hR (by rw [List.length_append, List.length_map]; omega) (fun S hS => ?_))
          refine z_auto rfl ?_
          exact z_rt rfl (h1 t n st S ec n5 (by rw [List.append_assoc] at hS; exact hS))
        · have e4 : fAny c (fOne c 5) (r + 1) = (t, none) := e4
          rw [e4] at ec
          refine z_auto rfl ?_
          refine z_cl rfl (m_emits_w hR ?_)
          refine z_auto rfl ?_
          exact z_rt rfl (h0 t R ec hR)
      · rw [if_neg e3] at ec
        refine z_auto rfl ?_
        refine z_cl rfl (m_some_w hP ?_)
        refine z_auto rfl ?_
        refine z_cl rfl (m_emits_w hP ?_)
        refine z_auto rfl ?_
        exact z_rt rfl (h0 r P ec hP)
    · have ec : fCla c p = (q, none) := by
        rw [fCla, ew]; dsimp only; rw [es]; dsimp only; rw [en]
      refine z_auto rfl ?_
      refine z_cl rfl (m_must_w hM (fun P hP => ?_))
      refine z_auto rfl ?_
      refine z_cl rfl (m_some_w hP ?_)
      refine z_auto rfl ?_
      refine z_cl rfl (m_emits_w hP ?_)
      refine z_auto rfl ?_
      exact z_rt rfl (h0 q P ec hP)
  · have ec : fCla c p = (q, none) := by
      rw [fCla, ew]; dsimp only; rw [es]
    refine z_auto rfl ?_
    refine z_cl rfl (m_figures_w hK (fun M hM => ?_))
    refine z_auto rfl ?_
    refine z_cl rfl (m_must_w hM (fun P hP => ?_))
    refine z_auto rfl ?_
    refine z_cl rfl (m_some_w hP ?_)
    refine z_auto rfl ?_
    refine z_cl rfl (m_emits_w hP ?_)
    refine z_auto rfl ?_
    exact z_rt rfl (h0 q P ec hP)
set_option maxHeartbeats 4000000 in
set_option maxRecDepth 100000 in
theorem m_tellsHere (hI : zTm2 I c N a) (hJ : zPq a I J p 0 B) (hp : p ≤ N) {w j wh : Nat} {l : List Nat} (hj : j < 6) (hl : zst j = l.map nI) (hw : w ≤ 1) (hwh : wh = 222 ∨ wh = 227) (ew : fWd (c p) = some (w, l)) (h1 : ∀ q n K, fCla c p = (q, some (w, (n, []))) → zPq a I K q 0 B → Q none (zup K 40 0 (wh + a) (nI n)) (zRR rl rs)) (h0 : ∀ q K, fCla c p = (q, none) → zPw a I K q → Q none K (zRR rl rs)) : zWm (d + 3) 124 [zr 10 0, zi (nI wh), zr 60 j] J (zRR rl rs) Q := by
  obtain ⟨-, w2, w3, w4⟩ := fWd_3 ew
  have i6 := hI.2.2.2.2.2
  refine z_auto rfl ?_
  refine z_cl rfl (m_spells hI hJ hp hj hl w3 w4 (fun q K es hq hK => ?_) (fun q K es hq hK => ?_))
  · refine z_auto rfl ?_
    refine z_cl rfl (m_figures hI hK hq (fun r n M en hM => ?_) (fun en x M hM => ?_))
    · have ec : fCla c p = (r, some (w, (n, []))) := by
        rw [fCla, ew]; dsimp only; rw [es]; dsimp only; rw [en]; dsimp only; rw [if_pos hw]
      have m4 : M 10 0 4 = nI a := (hM.1 _ _ _ (by omega) (by omega)).trans hI.2.2.2.2.1
      refine z_auto rfl ?_
      rw [hM.2.2.1]
      refine z_auto rfl ?_
      refine z_st rfl ?_
      refine z_auto rfl ?_
      rw [m4]
      refine z_auto rfl ?_
      refine z_ast (k := (wh + a)) rfl (nI_add wh a) (by show wh + a < 937; omega) ?_
      refine z_auto rfl ?_
      refine z_jp rfl ?_
      refine z_auto rfl ?_
      exact z_rt rfl (h1 r n M ec hM)
    · have ec : fCla c p = (q, none) := by
        rw [fCla, ew]; dsimp only; rw [es]; dsimp only; rw [en]
      refine z_auto rfl ?_
      rw [hM.2.2]
      refine z_auto rfl ?_
      refine z_jp rfl ?_
      refine z_auto rfl ?_
      exact z_rt rfl (h0 q M ec hM)
  · have ec : fCla c p = (q, none) := by
      rw [fCla, ew]; dsimp only; rw [es]
    refine z_auto rfl ?_
    refine z_cl rfl (m_figures_w hK (fun M hM => ?_))
    refine z_auto rfl ?_
    rw [hM.2.2]
    refine z_auto rfl ?_
    refine z_jp rfl ?_
    refine z_auto rfl ?_
    exact z_rt rfl (h0 q M ec hM)
theorem zMk_bear {K : zMI} {q n : Nat} (ha : a < 5) (hJ : zMk a I J p C) (hK : zPq a J K q 0 (zmf C)) : zMk a I (zup K 40 0 (222 + a) (nI n)) q (C ++ [(0, (n, []))]) := by
  obtain ⟨j1, j2, j3, j4, j5, j6, j7, j8⟩ := hJ
  obtain ⟨k1, k2, k3, k4, k5, k6⟩ := hK
  have e : zmf (C ++ [(0, (n, []))]) = zmf C := by rw [zmf_app]; exact List.append_nil _
  refine ⟨fun c i k a1 a2 => ?_, by rw [zup_c (by decide)]; exact k2, by rw [zup_c (by decide)]; exact k3, by rw [zup_c (by decide)]; exact k4, ?_, fun k x hk => ?_, ?_, ?_⟩
  · rw [zup_ne (by omega)]
    exact zFz_tr j1 k1 c i k a1 a2
  · rw [zup_k (by omega), e]
    exact k5
  · rw [e] at hk
    rw [zup_k (by omega)]
    exact k6 k x hk
  · rw [zup_eq, zlast_snoc]
    rfl
  · rw [zup_k (by omega), zlast_snoc, k1 _ _ _ (by omega) (by omega), j8]
    rfl
theorem zMk_turn {K : zMI} {q n : Nat} (ha : a < 5) (hJ : zMk a I J p C) (hK : zPq a J K q 0 (zmf C)) : zMk a I (zup K 40 0 (227 + a) (nI n)) q (C ++ [(1, (n, []))]) := by
  obtain ⟨j1, j2, j3, j4, j5, j6, j7, j8⟩ := hJ
  obtain ⟨k1, k2, k3, k4, k5, k6⟩ := hK
  have e : zmf (C ++ [(1, (n, []))]) = zmf C := by rw [zmf_app]; exact List.append_nil _
  refine ⟨fun c i k a1 a2 => ?_, by rw [zup_c (by decide)]; exact k2, by rw [zup_c (by decide)]; exact k3, by rw [zup_c (by decide)]; exact k4, ?_, fun k x hk => ?_, ?_, ?_⟩
  · rw [zup_ne (by omega)]
    exact zFz_tr j1 k1 c i k a1 a2
  · rw [zup_k (by omega), e]
    exact k5
  · rw [e] at hk
    rw [zup_k (by omega)]
    exact k6 k x hk
  · rw [zup_k (by omega), zlast_snoc, k1 _ _ _ (by omega) (by omega), j7]
    rfl
  · rw [zup_eq, zlast_snoc]
    rfl
theorem zMk_much {K : zMI} {q n w : Nat} {st : List Nat} (ha : a < 5) (hw : 2 ≤ w) (hJ : zMk a I J p C) (hK : zPq a J K q 0 (zmf C ++ zmf [(w, (n, st))])) : zMk a I K q (C ++ [(w, (n, st))]) := by
  obtain ⟨j1, j2, j3, j4, j5, j6, j7, j8⟩ := hJ
  obtain ⟨k1, k2, k3, k4, k5, k6⟩ := hK
  refine ⟨zFz_tr j1 k1, k2, k3, k4, by rw [zmf_app]; exact k5, fun k x hk => k6 k x (by rw [zmf_app] at hk; exact hk), ?_, ?_⟩
  · rw [k1 _ _ _ (by omega) (by omega), j7, zlast_snoc, if_neg (show ¬ w = 0 by omega)]
  · rw [k1 _ _ _ (by omega) (by omega), j8, zlast_snoc, if_neg (show ¬ w = 1 by omega)]
set_option maxHeartbeats 4000000 in
set_option maxRecDepth 100000 in
theorem m_clause (hI : zTm2 I c N a) (hJ : zMk a I J p C) (hp : p ≤ N) (hB : (zmf C).length ≤ p) (h1 : ∀ q cl K, fCla c p = (q, some cl) → zMk a I K q (C ++ [cl]) → Q none K (zRR rl rs)) (h0 : ∀ q K, fCla c p = (q, none) → zMw a I K q → Q none K (zRR rl rs)) : zWm (15 + d + 7) 125 [zr 10 0] J (zRR rl rs) Q := by
  have hI2 := zTm2_J hI hJ
  have i6 := hI.2.2.2.2.2
  have hP0 : zPq a J J p 0 (zmf C) := ⟨fun _ _ _ _ _ => rfl, hJ.2.1, hJ.2.2.1, hJ.2.2.2.1, hJ.2.2.2.2.1, hJ.2.2.2.2.2.1⟩
  have bad : ∀ q K, fCla c p = (q, none) → zPw a J K q → Q none K (zRR rl rs) := fun q K e hK => h0 q K e ⟨zFz_tr hJ.1 hK.1, hK.2⟩
  refine z_auto rfl ?_
  refine z_cl rfl (m_here hI2 hP0.1 hP0.2.1 hp ?_)
  by_cases e0 : c p = 98
  · have ew : fWd (c p) = some (0, [98, 101, 97, 114, 32]) := by rw [e0]; rfl
    rw [show zN (c p) = 98 by rw [e0]; rfl]
    refine z_auto rfl ?_
    refine z_jp rfl ?_
    refine z_auto rfl ?_
    refine z_cl rfl (m_tellsHere (d := 15 + d + 3) hI2 hP0 hp (wh := 222) (w := 0) (j := 0) (l := [98, 101, 97, 114, 32]) (by decide) rfl (by decide) (Or.inl rfl) ew (fun q n K e hK => ?_) (fun q K e hK => ?_))
    · refine z_auto rfl ?_
      refine z_jp rfl ?_
      refine z_auto rfl ?_
      exact z_rt rfl (h1 q _ _ e (zMk_bear i6 hJ hK))
    · refine z_auto rfl ?_
      refine z_jp rfl ?_
      refine z_auto rfl ?_
      exact z_rt rfl (bad q K e hK)
  · by_cases e1 : c p = 116
    · have ew : fWd (c p) = some (1, [116, 117, 114, 110, 32]) := by rw [e1]; rfl
      rw [show zN (c p) = 116 by rw [e1]; rfl]
      refine z_auto rfl ?_
      refine z_jp rfl ?_
      refine z_auto rfl ?_
      refine z_cl rfl (m_tellsHere (d := 15 + d + 3) hI2 hP0 hp (wh := 227) (w := 1) (j := 1) (l := [116, 117, 114, 110, 32]) (by decide) rfl (by decide) (Or.inr rfl) ew (fun q n K e hK => ?_) (fun q K e hK => ?_))
      · refine z_auto rfl ?_
        refine z_jp rfl ?_
        refine z_auto rfl ?_
        exact z_rt rfl (h1 q _ _ e (zMk_turn i6 hJ hK))
      · refine z_auto rfl ?_
        refine z_jp rfl ?_
        refine z_auto rfl ?_
        exact z_rt rfl (bad q K e hK)
    · by_cases e2 : c p = 119
      · have ew : fWd (c p) = some (2, [119, 105, 110, 100, 32]) := by rw [e2]; rfl
        rw [show zN (c p) = 119 by rw [e2]; rfl]
        refine z_auto rfl ?_
        refine z_jp rfl ?_
        refine z_auto rfl ?_
        refine z_cl rfl (m_much hI2 hP0 hp hB (w := 2) (j := 2) (l := [119, 105, 110, 100, 32]) (by decide) rfl (by decide) ew (fun q n st K e hn hK => ?_) (fun q K e hK => ?_))
        · refine z_auto rfl ?_
          refine z_jp rfl ?_
          refine z_auto rfl ?_
          exact z_rt rfl (h1 q _ _ e (zMk_much i6 (by decide) hJ (by rw [zmf, if_pos rfl, zmf, List.append_nil]; exact hK)))
        · refine z_auto rfl ?_
          refine z_jp rfl ?_
          refine z_auto rfl ?_
          exact z_rt rfl (bad q K e hK)
      · by_cases e3 : c p = 112
        · have ew : fWd (c p) = some (3, [112, 114, 105, 99, 101, 32]) := by rw [e3]; rfl
          rw [show zN (c p) = 112 by rw [e3]; rfl]
          refine z_auto rfl ?_
          refine z_jp rfl ?_
          refine z_auto rfl ?_
          refine z_cl rfl (m_much hI2 hP0 hp hB (w := 3) (j := 3) (l := [112, 114, 105, 99, 101, 32]) (by decide) rfl (by decide) ew (fun q n st K e hn hK => ?_) (fun q K e hK => ?_))
          · refine z_auto rfl ?_
            refine z_jp rfl ?_
            refine z_auto rfl ?_
            exact z_rt rfl (h1 q _ _ e (zMk_much i6 (by decide) hJ (by rw [zmf, if_neg (show ¬ 3 = 2 by decide), if_pos rfl, zmf, List.append_nil]; exact hK)))
          · refine z_auto rfl ?_
            refine z_jp rfl ?_
            refine z_auto rfl ?_
            exact z_rt rfl (bad q K e hK)
        · refine z_auto rfl ?_
          refine z_sw rfl (fun q hq hx => ?_) (fun hn => ?_)
          · exfalso
            have hq : q ∈ [((98 : Int32), 1), (112, 4), (116, 2), (119, 3)] := hq
            simp only [List.mem_cons, List.not_mem_nil, or_false] at hq
            rcases hq with rfl | rfl | rfl | rfl
            · exact e0 ((zN_eq (y := 98) (by decide)).mp hx)
            · exact e3 ((zN_eq (y := 112) (by decide)).mp hx)
            · exact e1 ((zN_eq (y := 116) (by decide)).mp hx)
            · exact e2 ((zN_eq (y := 119) (by decide)).mp hx)
          · refine z_auto rfl ?_
            refine z_ck rfl (show (1 : Int32) = 0 ∨ (1 : Int32) = 1 from Or.inr rfl) ?_
            refine z_auto rfl ?_
            refine z_jp rfl ?_
            refine z_auto rfl ?_
            exact z_rt rfl (bad p _ (by rw [fCla, fWd, if_neg e0, if_neg e1, if_neg e2, if_neg e3]) (zPq_w hP0))
end
