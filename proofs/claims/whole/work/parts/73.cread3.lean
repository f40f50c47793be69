/-! the class reads clauses and texts -/
theorem fWd_3 {x w : Nat} {l : List Nat} (h : fWd x = some (w, l)) : w ≤ 3 ∧ 5 ≤ l.length ∧ (∀ y ∈ l, y < 128) ∧ l.length ≤ 100 := by
  unfold fWd at h
  split at h
  · cases h; exact ⟨by decide, by decide, by decide, by decide⟩
  · split at h
    · cases h; exact ⟨by decide, by decide, by decide, by decide⟩
    · split at h
      · cases h; exact ⟨by decide, by decide, by decide, by decide⟩
      · split at h
        · cases h; exact ⟨by decide, by decide, by decide, by decide⟩
        · cases h
theorem fSp_gd {c : Nat → Nat} {N : Nat} (hc : ∀ p, c p < 128 ↔ p < N) : ∀ (l : List Nat) (p : Nat), p ≤ N → (∀ y ∈ l, y < 128) → (fSp c l p).1 ≤ N ∧ p ≤ (fSp c l p).1 ∧ ((fSp c l p).2 = true → (fSp c l p).1 = p + l.length)
  | [], p, hp, _ => ⟨hp, Nat.le_refl _, fun _ => rfl⟩
  | x :: l, p, hp, hl => by
    rw [fSp]
    split
    · rename_i e
      have hx := hl x List.mem_cons_self
      obtain ⟨h1, h2, h3⟩ := fSp_gd hc l (p + 1) ((hc p).mp (by omega)) (fun y hy => hl y (List.mem_cons_of_mem _ hy))
      exact ⟨h1, by omega, fun q => by rw [h3 q, List.length_cons]; omega⟩
    · exact ⟨hp, Nat.le_refl _, fun q => by cases q⟩
theorem fCla_gd {c : Nat → Nat} {N : Nat} (hc : ∀ p, c p < 128 ↔ p < N) {p : Nat} (hp : p ≤ N) : (fCla c p).1 ≤ N ∧ p ≤ (fCla c p).1 ∧ ∀ cl, (fCla c p).2 = some cl → p + 5 + cl.2.2.length ≤ (fCla c p).1 ∧ zwf cl := by
  unfold fCla
  cases h1 : fWd (c p) with
  | none => exact ⟨hp, Nat.le_refl _, fun cl h => by cases h⟩
  | some wl =>
    obtain ⟨w, l⟩ := wl
    obtain ⟨w1, w2, w3, w4⟩ := fWd_3 h1
    obtain ⟨s1, s2, s3⟩ := fSp_gd hc l p hp w3
    dsimp only
    generalize fSp c l p = r at s1 s2 s3
    obtain ⟨q, b⟩ := r
    cases b with
    | false => exact ⟨s1, s2, fun cl h => by cases h⟩
    | true =>
      have s3 := s3 rfl
      dsimp only at s1 s2 s3 ⊢
      obtain ⟨n1, n2, n3⟩ := fNum_gd hc s1
      generalize fNum c q = r at n1 n2 n3
      obtain ⟨r, o⟩ := r
      cases o with
      | none => exact ⟨n1, by dsimp only at n2 ⊢; omega, fun cl h => by cases h⟩
      | some n =>
        obtain ⟨n4, n5⟩ := n3 n rfl
        dsimp only at n1 n2 n4 ⊢
        split
        · rename_i hw
          refine ⟨n1, by dsimp only; omega, fun cl h => ?_⟩
          cases h
          exact ⟨by show p + 5 + 0 ≤ r; omega, w1, n5, Or.inl ⟨hw, rfl⟩⟩
        · split
          · rename_i hw h32
            have c1 : r < N := (hc r).mp (by omega)
            obtain ⟨g1, g2, g3⟩ := fAny_gd hc (fOne_gd hc 5) (r + 1) c1
            generalize fAny c (fOne c 5) (r + 1) = t at g1 g2 g3
            obtain ⟨t, o⟩ := t
            cases o with
            | none => exact ⟨g1, by dsimp only at g2 ⊢; omega, fun cl h => by cases h⟩
            | some st =>
              obtain ⟨g4, g5, g6⟩ := g3 st rfl
              dsimp only at g1 g2 g4 g5 ⊢
              refine ⟨g1, by omega, fun cl h => ?_⟩
              cases h
              exact ⟨by show p + 5 + st.length ≤ t; omega, w1, n5, Or.inr ⟨by show 2 ≤ w; omega, g6 0 (by decide)⟩⟩
          · exact ⟨n1, by dsimp only; omega, fun cl h => by cases h⟩
theorem zflat_app (C : List zCl) (cl : zCl) : zflat (C ++ [cl]) = zflat C ++ cl.2.2 := by
  unfold zflat
  rw [List.flatMap_append]
  simp
theorem zend_app : ∀ (C : List zCl) (cl : zCl) (i : Nat), i ≤ C.length → zend (C ++ [cl]) i = zend C i
  | [], cl, i, h => by
    have : i = 0 := Nat.le_zero.mp h
    subst this
    rfl
  | a :: C, cl, 0, h => rfl
  | a :: C, cl, i + 1, h => by
    show a.2.2.length + zend (C ++ [cl]) i = a.2.2.length + zend C i
    rw [zend_app C cl i (Nat.le_of_succ_le_succ h)]
theorem zend_all : ∀ (C : List zCl), zend C C.length = (zflat C).length
  | [] => rfl
  | a :: C => by
    show a.2.2.length + zend C C.length = (zflat (a :: C)).length
    rw [zend_all C]
    unfold zflat
    rw [List.flatMap_cons, List.length_append]
/-- the draft holds the clauses C, and the reader is at p -/
def zCk (I J : zMI) (p : Nat) (C : List zCl) : Prop := (∀ c i k, ¬ (c = 5 ∧ i = 0 ∧ k = 3) → ¬ ((c = 6 ∨ c = 30 ∨ c = 31 ∨ c = 32 ∨ c = 33) ∧ i = 0) → J c i k = I c i k) ∧ J 5 0 3 = nI p ∧ zES J 0 C ∧ J 6 0 6 = nI (zflat C).length
section
variable {d : Nat} {I J : zMI} {rl : Option (Nat × Nat)} {Q : zPQ} {c : Nat → Nat} {N p : Nat} {A : List Nat} {C : List zCl}
set_option maxHeartbeats 4000000 in
set_option maxRecDepth 100000 in
theorem s_readWord (hI : zTc2 I c N) (hJ : zPc I J p A) (hp : p ≤ N) (h1 : ∀ w l q K, fWd (c p) = some (w, l) → fSp c l p = (q, true) → q ≤ N → zPc I K q A → Q (some (zi (nI w))) K (zRR rl (some (29, 0)))) (h2 : ∀ w l q K, fWd (c p) = some (w, l) → fSp c l p = (q, false) → zPc I K q A → Q (some (zi (-1))) K (zRR rl (some (29, 0)))) (h3 : fWd (c p) = none → Q (some (zi (-1))) J (zRR rl (some (29, 0)))) : zWm (d + 3) 41 [zr 5 0] J (zRR rl (some (29, 0))) Q := by
  refine z_auto rfl ?_
  refine z_cl rfl (s_next hI hJ hp ?_)
  by_cases e0 : c p = 98
  · have ew : fWd (c p) = some (0, [98, 101, 97, 114, 32]) := by rw [e0]; rfl
    rw [show zN (c p) = 98 by rw [e0]; rfl]
    refine z_auto rfl ?_
    refine z_jp rfl ?_
    refine z_auto rfl ?_
    refine z_cl rfl (s_passAll hI hJ hp (j := 0) (l := [98, 101, 97, 114, 32]) (by decide) rfl (by decide) (by decide) (fun q K e hq hK => ?_) (fun q K e hq hK => ?_))
    · refine z_auto rfl ?_
      refine z_st rfl ?_
      refine z_auto rfl ?_
      refine z_jp rfl ?_
      refine z_auto rfl ?_
      exact z_rt rfl (h1 0 _ q K ew e hq hK)
    · refine z_auto rfl ?_
      refine z_jp rfl ?_
      refine z_auto rfl ?_
      refine z_jp rfl ?_
      refine z_auto rfl ?_
      exact z_rt rfl (h2 0 _ q K ew e hK)
  · by_cases e1 : c p = 116
    · have ew : fWd (c p) = some (1, [116, 117, 114, 110, 32]) := by rw [e1]; rfl
      rw [show zN (c p) = 116 by rw [e1]; rfl]
      refine z_auto rfl ?_
      refine z_jp rfl ?_
      refine z_auto rfl ?_
      refine z_cl rfl (s_passAll hI hJ hp (j := 1) (l := [116, 117, 114, 110, 32]) (by decide) rfl (by decide) (by decide) (fun q K e hq hK => ?_) (fun q K e hq hK => ?_))
      · refine z_auto rfl ?_
        refine z_st rfl ?_
        refine z_auto rfl ?_
        refine z_jp rfl ?_
        refine z_auto rfl ?_
        exact z_rt rfl (h1 1 _ q K ew e hq hK)
      · refine z_auto rfl ?_
        refine z_jp rfl ?_
        refine z_auto rfl ?_
        refine z_jp rfl ?_
        refine z_auto rfl ?_
        exact z_rt rfl (h2 1 _ q K ew e hK)
    · by_cases e2 : c p = 119
      · have ew : fWd (c p) = some (2, [119, 105, 110, 100, 32]) := by rw [e2]; rfl
        rw [show zN (c p) = 119 by rw [e2]; rfl]
        refine z_auto rfl ?_
        refine z_jp rfl ?_
        refine z_auto rfl ?_
        refine z_cl rfl (s_passAll hI hJ hp (j := 2) (l := [119, 105, 110, 100, 32]) (by decide) rfl (by decide) (by decide) (fun q K e hq hK => ?_) (fun q K e hq hK => ?_))
        · refine z_auto rfl ?_
          refine z_st rfl ?_
          refine z_auto rfl ?_
          refine z_jp rfl ?_
          refine z_auto rfl ?_
          exact z_rt rfl (h1 2 _ q K ew e hq hK)
        · refine z_auto rfl ?_
          refine z_jp rfl ?_
          refine z_auto rfl ?_
          refine z_jp rfl ?_
          refine z_auto rfl ?_
          exact z_rt rfl (h2 2 _ q K ew e hK)
      · by_cases e3 : c p = 112
        · have ew : fWd (c p) = some (3, [112, 114, 105, 99, 101, 32]) := by rw [e3]; rfl
          rw [show zN (c p) = 112 by rw [e3]; rfl]
          refine z_auto rfl ?_
          refine z_jp rfl ?_
          refine z_auto rfl ?_
          refine z_cl rfl (s_passAll hI hJ hp (j := 3) (l := [112, 114, 105, 99, 101, 32]) (by decide) rfl (by decide) (by decide) (fun q K e hq hK => ?_) (fun q K e hq hK => ?_))
          · refine z_auto rfl ?_
            refine z_st rfl ?_
            refine z_auto rfl ?_
            refine z_jp rfl ?_
            refine z_auto rfl ?_
            exact z_rt rfl (h1 3 _ q K ew e hq hK)
          · refine z_auto rfl ?_
            refine z_jp rfl ?_
            refine z_auto rfl ?_
            refine z_jp rfl ?_
            refine z_auto rfl ?_
            exact z_rt rfl (h2 3 _ q K ew e hK)
        · refine z_auto rfl ?_
          refine z_sw rfl (fun q hq hx => ?_) (fun hn => ?_)
          · exfalso
            have hq : q ∈ [((98 : Int32), 1), (112, 10), (116, 4), (119, 7)] := hq
            simp only [List.mem_cons, List.not_mem_nil, or_false] at hq
            rcases hq with rfl | rfl | rfl | rfl
            · exact e0 ((zN_eq (y := 98) (by decide)).mp hx)
            · exact e3 ((zN_eq (y := 112) (by decide)).mp hx)
            · exact e1 ((zN_eq (y := 116) (by decide)).mp hx)
            · exact e2 ((zN_eq (y := 119) (by decide)).mp hx)
          · refine z_auto rfl ?_
            exact z_rt rfl (h3 (by rw [fWd, if_neg e0, if_neg e1, if_neg e2, if_neg e3]))
theorem zTc2_J {I J : zMI} {p : Nat} {C : List zCl} (hI : zTc2 I c N) (hJ : zCk I J p C) : zTc2 J c N := by
  obtain ⟨i1, i2, i3, i4⟩ := hI
  exact ⟨(hJ.1 5 0 2 (by omega) (by omega)).trans i1, i2, i3, fun p hp => (hJ.1 29 0 p (by omega) (by omega)).trans (i4 p hp)⟩
theorem zCk_add {K : zMI} {w n q : Nat} {st : List Nat} (hJ : zCk I J p C) (hK : zPc J K q (zflat C ++ st)) (hC : C.length < 10) (hl : (zflat C ++ st).length ≤ 100) (hw : zwf (w, (n, st))) : zCk I (zup (zup (zup (zup K 30 0 C.length (nI w)) 31 0 C.length (nI n)) 32 0 C.length (K 6 0 6)) 6 0 5 (nI (C.length + 1))) q (C ++ [(w, (n, st))]) := by
  obtain ⟨j1, j2, ⟨s1, s2, s3, s4, s5, s6⟩, j4⟩ := hJ
  obtain ⟨k1, k2, k3, k4⟩ := hK
  obtain ⟨M, hM⟩ : ∃ M, M = zup (zup (zup (zup K 30 0 C.length (nI w)) 31 0 C.length (nI n)) 32 0 C.length (K 6 0 6)) 6 0 5 (nI (C.length + 1)) := ⟨_, rfl⟩
  rw [← hM]
  have fr : ∀ c i k, ¬ ((c = 30 ∨ c = 31 ∨ c = 32) ∧ i = 0 ∧ k = C.length) → ¬ (c = 6 ∧ i = 0 ∧ k = 5) → M c i k = K c i k := fun c i k a1 a2 => by
    rw [hM]
    repeat rw [zup_ne (by omega)]
  have v30 : M 30 0 C.length = nI w := by
    rw [hM]
    repeat (first | rw [zup_eq] | rw [zup_ne (by omega)])
  have v31 : M 31 0 C.length = nI n := by
    rw [hM]
    repeat (first | rw [zup_eq] | rw [zup_ne (by omega)])
  have v32 : M 32 0 C.length = nI (zflat C ++ st).length := by
    rw [hM, ← k3]
    repeat (first | rw [zup_eq] | rw [zup_ne (by omega)])
  have v5 : M 6 0 5 = nI (C.length + 1) := by rw [hM, zup_eq]
  clear hM
  have ef := zflat_app C (w, (n, st))
  refine ⟨fun c i k a1 a2 => ?_, (fr _ _ _ (by omega) (by omega)).trans k2, ⟨?_, ?_, ?_, ?_, ?_, ?_⟩, ?_⟩
  · rw [fr c i k (by omega) (by omega), k1 c i k (by omega) (by omega) (by omega)]
    exact j1 c i k a1 a2
  · rw [v5, List.length_append]
    rfl
  · rw [List.length_append, List.length_singleton]
    omega
  · rw [ef]
    exact hl
  · intro x hx
    rcases List.mem_append.mp hx with q | q
    · exact s4 x q
    · rw [List.mem_singleton] at q
      rw [q]
      exact hw
  · intro i x hx
    rcases Nat.lt_trichotomy i C.length with q | q | q
    · rw [List.getElem?_append_left q] at hx
      rw [fr _ _ _ (by omega) (by omega), fr _ _ _ (by omega) (by omega), fr _ _ _ (by omega) (by omega), k1 _ _ _ (by omega) (by omega) (by omega), k1 _ _ _ (by omega) (by omega) (by omega), k1 _ _ _ (by omega) (by omega) (by omega), zend_app C _ (i + 1) q]
      exact s5 i x hx
    · subst q
      rw [List.getElem?_append_right (Nat.le_refl _), Nat.sub_self] at hx
      have hx : (w, (n, st)) = x := Option.some.inj hx
      rw [← hx, v30, v31, v32]
      have := zend_all (C ++ [(w, (n, st))])
      rw [List.length_append, List.length_singleton] at this
      rw [this, ef]
      exact ⟨rfl, rfl, rfl⟩
    · rw [List.getElem?_append_right (by omega)] at hx
      have := (List.getElem?_eq_some_iff.mp hx).1
      rw [List.length_singleton] at this
      omega
  · intro k t hk
    rw [ef] at hk
    rw [fr _ _ _ (by omega) (by omega)]
    exact k4 k t hk
  · rw [fr _ _ _ (by omega) (by omega), k3, ef]
set_option maxHeartbeats 4000000 in
set_option maxRecDepth 100000 in
theorem s_readClause (hI : zTc2 I c N) (hJ : zCk I J p C) (hp : p ≤ N) (hA : (zflat C).length ≤ p) (hC : C.length < 10) (h1 : ∀ q cl K, fCla c p = (q, some cl) → zCk I K q (C ++ [cl]) → Q (some (zi 1)) K (zRR rl (some (29, 0)))) (h0 : ∀ q K A', fCla c p = (q, none) → zPc J K q A' → Q (some (zi 0)) K (zRR rl (some (29, 0)))) : zWm (10 + d + 6) 40 [zr 5 0] J (zRR rl (some (29, 0))) Q := by
  have hI2 := zTc2_J hI hJ
  have i2 := hI.2.1
  have i3 := hI.2.2.1
  have hgc := fCla_gd i3 hp
  have hP0 : zPc J J p (zflat C) := ⟨fun _ _ _ _ _ _ => rfl, hJ.2.1, hJ.2.2.2, hJ.2.2.1.2.2.2.2.2⟩
  have f2 : ∀ K u1, (∃ q A', fCla c p = (q, none) ∧ zPc J K q A') → zW (10 + d + 6) kX5_readClause (zblk kX5_readClause 2) [some (zr 5 0), some (zi u1), none, none] [zi (-1)] K (zRR rl (some (29, 0))) Q := by
    rintro K u1 ⟨q, A', e, hK⟩
    refine z_auto rfl ?_
    refine z_st rfl ?_
    refine z_auto rfl ?_
    exact z_rt rfl (h0 q K A' e hK)
  refine z_auto rfl ?_
  refine z_cl rfl (s_readWord hI2 hP0 hp (fun w l q K ew es hq hK => ?_) (fun w l q K ew es hK => ?_) (fun ew => ?_))
  · obtain ⟨w3, -, -, -⟩ := fWd_3 ew
    refine z_auto rfl ?_
    refine z_br rfl (fun c1 => ?_) (fun c1 => ?_)
    · refine z_auto rfl ?_
      refine z_cl rfl (s_readNumber hI2 hK hq (fun r n M en hM => ?_) (fun en => ?_))
      · have hn := fNum_gd i3 hq
        rw [en] at hn
        obtain ⟨n1, n2, n3⟩ := hn
        have n4 := (n3 n rfl).1
        have n5 := (n3 n rfl).2
        dsimp only at n1 n2 n4
        have hsp := fSp_gd i3 l p hp (fWd_3 ew).2.2.1
        rw [es] at hsp
        have hpq := hsp.2.1
        dsimp only at hpq
        refine z_auto rfl ?_
        refine z_jp rfl ?_
        refine z_auto rfl ?_
        refine z_br rfl (fun c2 => ?_) (fun c2 => ?_)
        · have short : w ≤ 1 → zW (10 + d + 6) kX5_readClause (zblk kX5_readClause 8) [some (zr 5 0), some (zi (nI w)), some (zi (nI n)), some (zi 0)] [] M (zRR rl (some (29, 0))) Q := by
            intro hw
            have ec : fCla c p = (r, some (w, (n, []))) := by
              rw [fCla, ew]; dsimp only; rw [es]; dsimp only; rw [en]; dsimp only; rw [if_pos hw]
            rw [ec] at hgc
            have hwf := (hgc.2.2 _ rfl).2
            have m5 : M 6 0 5 = nI C.length := (hM.1 _ _ _ (by omega) (by omega) (by omega)).trans hJ.2.2.1.1
            refine z_auto rfl ?_
            refine z_cl rfl (s_addClause m5 hC ?_)
            refine z_auto rfl ?_
            exact z_rt rfl (h1 r _ _ ec (zCk_add hJ (by rw [List.append_nil]; exact hM) hC (by rw [List.append_nil]; omega) hwf))
          have long : 2 ≤ w → zW (10 + d + 6) kX5_readClause (zblk kX5_readClause 4) [some (zr 5 0), some (zi (nI w)), some (zi (nI n)), none] [] M (zRR rl (some (29, 0))) Q := by
            intro hw
            have ec : fCla c p = (if c r = 32 then (match fAny c (fOne c 5) (r + 1) with
              | (s, none) => (s, none)
              | (s, some st) => (s, some (w, (n, st)))) else (r, none)) := by
              rw [fCla, ew]; dsimp only; rw [es]; dsimp only; rw [en]; dsimp only; rw [if_neg (by omega)]
              rfl
            refine z_auto rfl ?_
            refine z_jp rfl ?_
            refine z_auto rfl ?_
            refine z_st rfl ?_
            refine z_auto rfl ?_
            refine z_cl rfl (s_pass hI2 hM n1 (x := 32) (by decide) (fun e3 P hP => ?_) (fun e3 => ?_))
            · have c1 : r < N := (i3 r).mp (by omega)
              have hgp := fAny_gd i3 (fOne_gd i3 5) (r + 1) c1
              rw [if_pos e3] at ec
              refine z_auto rfl ?_
              refine z_st rfl ?_
              refine z_auto rfl ?_
              refine z_cl rfl (s_any (f := 5) (d := 10 + d + 3) hI2 (fOne_gd i3 5) (s_one hI2 5 (by decide) d) hP c1 (by omega) (fun t st R e4 hR => ?_) (fun t R A' e4 hR => ?_))
              · rw [e4] at ec
                rw [e4] at hgp
                rw [ec] at hgc
                have hwf := (hgc.2.2 _ rfl).2
                obtain ⟨g1, g2, g3⟩ := hgp
                obtain ⟨g4, g5, g6⟩ := g3 st rfl
                dsimp only at g1 g2 g4 g5
                have m5 : R 6 0 5 = nI C.length := (hR.1 _ _ _ (by omega) (by omega) (by omega)).trans hJ.2.2.1.1
                refine z_auto rfl ?_
                refine z_jp rfl ?_
                refine z_auto rfl ?_
                refine z_cl rfl (s_addClause m5 hC ?_)
                refine z_auto rfl ?_
                exact z_rt rfl (h1 t _ _ ec (zCk_add hJ hR hC (by rw [List.length_append]; omega) hwf))
              · rw [e4] at ec
                refine z_auto rfl ?_
                refine z_st rfl ?_
                refine z_auto rfl ?_
                refine z_jp rfl ?_
                refine z_auto rfl ?_
                exact z_rt rfl (h0 t R A' ec hR)
            · rw [if_neg e3] at ec
              refine z_auto rfl ?_
              refine z_jp rfl ?_
              refine z_auto rfl ?_
              exact z_rt rfl (h0 r M _ ec hM)
          rcases (show w = 0 ∨ w = 1 ∨ w = 2 ∨ w = 3 by omega) with rfl | rfl | rfl | rfl
          · refine z_auto rfl ?_
            refine z_st rfl ?_
            refine z_auto rfl ?_
            refine z_jp rfl ?_
            refine z_auto rfl ?_
            refine z_jp rfl ?_
            refine z_auto rfl ?_
            refine z_jp rfl ?_
            exact short (by decide)
          · refine z_auto rfl ?_
            refine z_st rfl ?_
            refine z_auto rfl ?_
            refine z_jp rfl ?_
            refine z_auto rfl ?_
            refine z_jp rfl ?_
            refine z_auto rfl ?_
            refine z_jp rfl ?_
            exact short (by decide)
          · refine z_auto rfl ?_
            refine z_jp rfl ?_
            exact long (by decide)
          · refine z_auto rfl ?_
            refine z_st rfl ?_
            refine z_auto rfl ?_
            refine z_st rfl ?_
            refine z_auto rfl ?_
            refine z_jp rfl ?_
            exact long (by decide)
        · exact absurd (nI_pos' (by omega)) c2
      · refine z_auto rfl ?_
        refine z_jp rfl ?_
        exact f2 K _ ⟨q, _, by rw [fCla, ew]; dsimp only; rw [es]; dsimp only; rw [en], hK⟩
    · exact absurd (nI_pos' (by omega)) c1
  · refine z_auto rfl ?_
    refine z_st rfl ?_
    refine z_auto rfl ?_
    refine z_jp rfl ?_
    exact f2 K _ ⟨q, _, by rw [fCla, ew]; dsimp only; rw [es], hK⟩
  · refine z_auto rfl ?_
    refine z_st rfl ?_
    refine z_auto rfl ?_
    refine z_jp rfl ?_
    exact f2 J _ ⟨p, _, by rw [fCla, ew], hP0⟩
end
