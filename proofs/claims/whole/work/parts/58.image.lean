/-! image, undo -/
theorem zbL_cg {a4 a20 a21 a22 a23 a24 a25 s b4 b20 b21 b22 b23 b24 b25 s' : Nat → Int32} {n : Nat} (h47 : b4 7 = a4 7) (h46 : b4 6 = a4 6) (h20 : ∀ k, k < 8 → b20 k = a20 k) (h21 : ∀ k, k < 8 → b21 k = a21 k) (h22 : ∀ k, k < 8 → b22 k = a22 k) (h23 : ∀ k, k < 8 → b23 k = a23 k) (h24 : ∀ k, k < 8 → b24 k = a24 k) (h25 : ∀ k, k < 24 → b25 k = a25 k) (hs : ∀ k, k < 937 → s' k = s k) (h : zbL a4 a20 a21 a22 a23 a24 a25 s n) : zbL b4 b20 b21 b22 b23 b24 b25 s' n := by
  obtain ⟨g1, g2, g3, g4, g5, g6, g7, g8⟩ := h
  refine ⟨h47.trans g1, (hs 0 (by omega)).trans g2, g3, fun i hi => ?_, fun i x hi hx => ?_, fun x h1 h2 => (h25 x h2).trans (g6 x h1 h2), (h46.trans g7).trans (hs 9 (by omega)).symm, fun i hi => ?_⟩
  · rw [h20 i (by omega), h21 i (by omega), h22 i (by omega), h23 i (by omega), h24 i (by omega), hs _ (by omega), hs _ (by omega), hs _ (by omega), hs _ (by omega), hs _ (by omega)]
    exact g4 i hi
  · rw [h25 _ (by omega), hs _ (by omega)]
    exact g5 i x hi hx
  · rw [hs 9 (by omega)]
    exact g8 i hi
theorem zbH_cg {a7 a26 a27 a28 s b7 b26 b27 b28 s' : Nat → Int32} {q o X n : Nat} (hq : q < 937) (ho : o + 24 ≤ 937) (h7 : b7 3 = a7 3) (h26 : ∀ k, k < 8 → b26 k = a26 k) (h27 : ∀ k, k < 8 → b27 k = a27 k) (h28 : ∀ k, k < 8 → b28 k = a28 k) (hs : ∀ k, k < 937 → s' k = s k) (h : zbH a7 a26 a27 a28 s q o X n) : zbH b7 b26 b27 b28 s' q o X n := by
  obtain ⟨h1, h2, h3, h4⟩ := h
  refine ⟨h7.trans h1, (hs q hq).trans h2, h3, fun i hi => ?_⟩
  rw [h26 i (by omega), h27 i (by omega), h28 i (by omega), hs _ (by omega), hs _ (by omega), hs _ (by omega)]
  exact h4 i hi
theorem zbT_cg {a8 a29 s b8 b29 s' : Nat → Int32} {n : Nat} (h8 : b8 1 = a8 1) (h29 : ∀ k, k < 100 → b29 k = a29 k) (hs : ∀ k, k < 937 → s' k = s k) (h : zbT a8 a29 s n) : zbT b8 b29 s' n := by
  obtain ⟨h1, h2, h3, h4⟩ := h
  refine ⟨h8.trans h1, (hs 4 (by omega)).trans h2, h3, fun i hi => ?_⟩
  rw [h29 i (by omega), hs _ (by omega)]
  exact h4 i hi
theorem zMS_cg {s s' : Nat → Int32} {a : Nat} {C : List zCl} (ha : a < 5) (hs : ∀ k, k < 937 → s' k = s k) (hM : zMS s a C) : zMS s' a C := by
  obtain ⟨q1, q2, q3, q4, q5, q6⟩ := hM
  refine ⟨(hs _ (by omega)).trans q1, q2, fun k x hk => ?_, (hs _ (by omega)).trans q4, (hs _ (by omega)).trans q5, q6⟩
  have hk2 : k < (zmf C).length := (List.getElem?_eq_some_iff.mp hk).1
  exact (hs _ (by omega)).trans (q3 k x hk)
theorem zbS_cg {I J : zMI} {b b' : Nat} {s s' : Nat → Int32} {k : Nat} (h15 : J 1 b 5 = I 1 b' 5) (hE : ∀ c j k, (c = 6 ∨ c = 30 ∨ c = 31 ∨ c = 32 ∨ c = 33) → J c j k = I c j k) (hs : ∀ k, k < 937 → s' k = s k) (hS : zbS I b' s k) : zbS J b s' k := by
  obtain ⟨g1, g2, g3, g4, g5⟩ := hS
  refine ⟨h15.trans g1, (hs 1 (by omega)).trans g2, g3, (hs 5 (by omega)).trans g4, fun j hj => ?_⟩
  obtain ⟨C, c1, c2⟩ := g5 j hj
  exact ⟨C, zES_fr (fun c k hc => hE c _ k hc) c1, zMS_cg (by omega) hs c2⟩
/-- box b is now as box b' was -/
def zPy (I J : zMI) (b b' : Nat) : Prop := (∀ c k, ((c = 1 ∧ (k = 5 ∨ k = 6)) ∨ (c = 2 ∧ k ≤ 1) ∨ (c = 4 ∧ (k = 6 ∨ k = 7)) ∨ (20 ≤ c ∧ c ≤ 24 ∧ k < 8) ∨ (c = 25 ∧ k < 24) ∨ (c = 8 ∧ k = 1) ∨ (c = 29 ∧ k < 100)) → J c b k = I c b' k) ∧
  (∀ c k e, e ≤ 1 → ((c = 7 ∧ k = 3) ∨ (26 ≤ c ∧ c ≤ 28 ∧ k < 8)) → J c (2 * b + e) k = I c (2 * b' + e) k) ∧
  (∀ c i k, ¬ ((c = 1 ∨ c = 2 ∨ c = 4 ∨ c = 8 ∨ (20 ≤ c ∧ c ≤ 25) ∨ c = 29) ∧ i = b) → ¬ ((c = 7 ∨ (26 ≤ c ∧ c ≤ 28)) ∧ (i = 2 * b ∨ i = 2 * b + 1)) → J c i k = I c i k)
theorem zPy_bx {I J : zMI} {b b' : Nat} {s s' : Nat → Int32} {n k t : Nat} (h : zPy I J b b') (hs : ∀ k, k < 937 → s' k = s k) (hx : zbx I b' s n k t) : zbx J b s' n k t := by
  obtain ⟨p1, p2, p3⟩ := h
  obtain ⟨h1, h2, ⟨m1, h3⟩, ⟨m2, h4⟩, ⟨m3, h5⟩, ⟨e1, e2, e3, e4, e5⟩⟩ := hx
  refine ⟨?_, ?_, ⟨m1, ?_⟩, ⟨m2, ?_⟩, ⟨m3, ?_⟩, ?_⟩
  · exact zbL_cg (p1 4 7 (by omega)) (p1 4 6 (by omega)) (fun k hk => p1 20 k (by omega)) (fun k hk => p1 21 k (by omega)) (fun k hk => p1 22 k (by omega)) (fun k hk => p1 23 k (by omega)) (fun k hk => p1 24 k (by omega)) (fun k hk => p1 25 k (by omega)) hs h1
  · exact zbS_cg (p1 1 5 (by omega)) (fun c j k hc => p3 c j k (by omega) (by omega)) hs h2
  · exact zbH_cg (by omega) (by omega) (p2 7 3 0 (by omega) (by omega)) (fun k hk => p2 26 k 0 (by omega) (by omega)) (fun k hk => p2 27 k 0 (by omega) (by omega)) (fun k hk => p2 28 k 0 (by omega) (by omega)) hs h3
  · exact zbH_cg (by omega) (by omega) (p2 7 3 1 (by omega) (by omega)) (fun k hk => p2 26 k 1 (by omega) (by omega)) (fun k hk => p2 27 k 1 (by omega) (by omega)) (fun k hk => p2 28 k 1 (by omega) (by omega)) hs h4
  · exact zbT_cg (p1 8 1 (by omega)) (fun k hk => p1 29 k (by omega)) hs h5
  · refine ⟨(p1 1 6 (by omega)).trans e1, (hs 6 (by omega)).trans e2, e3, ((p1 2 0 (by omega)).trans e4).trans (hs 7 (by omega)).symm, ?_⟩
    rw [p1 2 1 (by omega), hs 8 (by omega)]
    exact e5
/-- a box that nothing touches -/
theorem zbx_id {I J : zMI} {b : Nat} {s s' : Nat → Int32} {n k t : Nat} (h : ∀ c i k, ((c = 1 ∨ c = 2 ∨ c = 4 ∨ c = 8 ∨ (20 ≤ c ∧ c ≤ 25) ∨ c = 29) ∧ i = b) ∨ ((c = 7 ∨ (26 ≤ c ∧ c ≤ 28)) ∧ (i = 2 * b ∨ i = 2 * b + 1)) ∨ c = 6 ∨ (30 ≤ c ∧ c ≤ 33) → J c i k = I c i k) (hs : ∀ k, k < 937 → s' k = s k) (hx : zbx I b s n k t) : zbx J b s' n k t := by
  obtain ⟨h1, h2, ⟨m1, h3⟩, ⟨m2, h4⟩, ⟨m3, h5⟩, ⟨e1, e2, e3, e4, e5⟩⟩ := hx
  refine ⟨?_, ?_, ⟨m1, ?_⟩, ⟨m2, ?_⟩, ⟨m3, ?_⟩, ?_⟩
  · exact zbL_cg (h 4 b 7 (by omega)) (h 4 b 6 (by omega)) (fun k hk => h 20 b k (by omega)) (fun k hk => h 21 b k (by omega)) (fun k hk => h 22 b k (by omega)) (fun k hk => h 23 b k (by omega)) (fun k hk => h 24 b k (by omega)) (fun k hk => h 25 b k (by omega)) hs h1
  · exact zbS_cg (h 1 b 5 (by omega)) (fun c j k hc => h c j k (by omega)) hs h2
  · exact zbH_cg (by omega) (by omega) (h 7 _ 3 (by omega)) (fun k hk => h 26 _ k (by omega)) (fun k hk => h 27 _ k (by omega)) (fun k hk => h 28 _ k (by omega)) hs h3
  · exact zbH_cg (by omega) (by omega) (h 7 _ 3 (by omega)) (fun k hk => h 26 _ k (by omega)) (fun k hk => h 27 _ k (by omega)) (fun k hk => h 28 _ k (by omega)) hs h4
  · exact zbT_cg (h 8 b 1 (by omega)) (fun k hk => h 29 b k (by omega)) hs h5
  · refine ⟨(h 1 b 6 (by omega)).trans e1, (hs 6 (by omega)).trans e2, e3, ((h 2 b 0 (by omega)).trans e4).trans (hs 7 (by omega)).symm, ?_⟩
    rw [h 2 b 1 (by omega), hs 8 (by omega)]
    exact e5
theorem zcp_ne {I : zMI} {cs js cd jd n c i k : Nat} (h : ¬ (c = cd ∧ i = jd ∧ k < n)) : zcp I cs js cd jd n c i k = I c i k := if_neg h
theorem zcp_eq {I : zMI} {cs js cd jd n k : Nat} (h : k < n) : zcp I cs js cd jd n cd jd k = I cs js k := if_pos ⟨rfl, rfl, h⟩
theorem z_cpy {d : Nat} {B : List (List zAI)} {is : List zAI} {L : zXL} {S : List zAV} {I : zMI} {G : zMR} {Q : zPQ} {c0 j0 c j : Nat} {n dp sp : Int32} (h : zsh c = 1 ∧ zsh c0 = 1 ∧ zal c0 = zal c ∧ n = nI (zal c) ∧ sp = 0 ∧ dp = 0 ∧ zshort S = true) (kk : zW d B is L S (zcp I c0 j0 c j (zal c)) G Q) : zW d B ((44, 0, 0, 0) :: is) L (zi n :: zi dp :: zr c j :: zi sp :: zr c0 j0 :: S) I G Q := z_ck rfl h kk
section
variable {d : Nat} {I : zMI} {rl rs : Option (Nat × Nat)} {Q : zPQ} {G : zMR} {b b' : Nat}
set_option maxHeartbeats 4000000 in
set_option maxRecDepth 100000 in
theorem s_cp8 (hb : b ≠ b') (h : ∀ J : zMI, (∀ c i k, ¬ ((c = 8 ∨ c = 29) ∧ i = b) → J c i k = I c i k) → J 8 b 1 = I 8 b' 1 → (∀ k, k < 100 → J 29 b k = I 29 b' k) → Q none J (zRR rl rs)) : zWm d 62 [zr 8 b, zr 8 b'] I (zRR rl rs) Q := by
  refine z_auto rfl ?_
  refine z_cpy ⟨rfl, rfl, rfl, rfl, rfl, rfl, rfl⟩ ?_
  refine z_auto rfl ?_
  exact z_rt rfl (h _ (fun c i k h1 => by rw [zup_ne (by omega), zcp_ne (by omega)]) (by rw [zup_eq, zcp_ne (by omega)]) (fun k hk => by rw [zup_ne (by omega)]; exact zcp_eq hk))
set_option maxHeartbeats 4000000 in
set_option maxRecDepth 100000 in
theorem s_cp7 (hb : b ≠ b') (h : ∀ J : zMI, (∀ c i k, ¬ ((c = 7 ∨ c = 26 ∨ c = 27 ∨ c = 28) ∧ i = b) → J c i k = I c i k) → J 7 b 3 = I 7 b' 3 → (∀ c k, (c = 26 ∨ c = 27 ∨ c = 28) → k < 8 → J c b k = I c b' k) → Q none J (zRR rl rs)) : zWm d 59 [zr 7 b, zr 7 b'] I (zRR rl rs) Q := by
  refine z_auto rfl ?_
  refine z_cpy ⟨rfl, rfl, rfl, rfl, rfl, rfl, rfl⟩ ?_
  refine z_auto rfl ?_
  refine z_cpy ⟨rfl, rfl, rfl, rfl, rfl, rfl, rfl⟩ ?_
  refine z_auto rfl ?_
  refine z_cpy ⟨rfl, rfl, rfl, rfl, rfl, rfl, rfl⟩ ?_
  refine z_auto rfl ?_
  refine z_rt rfl (h _ (fun c i k h1 => ?_) ?_ (fun c k hc hk => ?_))
  · rw [zup_ne (by omega), zcp_ne (by omega), zcp_ne (by omega), zcp_ne (by omega)]
  · rw [zup_eq, zcp_ne (by omega), zcp_ne (by omega), zcp_ne (by omega)]
  · rcases hc with rfl | rfl | rfl
    · rw [zup_ne (by omega), zcp_ne (by omega), zcp_ne (by omega)]
      exact zcp_eq hk
    · rw [zup_ne (by omega), zcp_ne (by omega)]
      exact (zcp_eq hk).trans (zcp_ne (by omega))
    · rw [zup_ne (by omega)]
      exact (zcp_eq hk).trans ((zcp_ne (by omega)).trans (zcp_ne (by omega)))
set_option maxHeartbeats 4000000 in
set_option maxRecDepth 100000 in
theorem s_cp4 (hb : b ≠ b') (h : ∀ J : zMI, (∀ c i k, ¬ ((c = 4 ∨ (20 ≤ c ∧ c ≤ 25)) ∧ i = b) → J c i k = I c i k) → (∀ k, (k = 6 ∨ k = 7) → J 4 b k = I 4 b' k) → (∀ c k, 20 ≤ c → c ≤ 24 → k < 8 → J c b k = I c b' k) → (∀ k, k < 24 → J 25 b k = I 25 b' k) → Q none J (zRR rl rs)) : zWm d 34 [zr 4 b, zr 4 b'] I (zRR rl rs) Q := by
  refine z_auto rfl ?_
  refine z_cpy ⟨rfl, rfl, rfl, rfl, rfl, rfl, rfl⟩ ?_
  refine z_auto rfl ?_
  refine z_cpy ⟨rfl, rfl, rfl, rfl, rfl, rfl, rfl⟩ ?_
  refine z_auto rfl ?_
  refine z_cpy ⟨rfl, rfl, rfl, rfl, rfl, rfl, rfl⟩ ?_
  refine z_auto rfl ?_
  refine z_cpy ⟨rfl, rfl, rfl, rfl, rfl, rfl, rfl⟩ ?_
  refine z_auto rfl ?_
  refine z_cpy ⟨rfl, rfl, rfl, rfl, rfl, rfl, rfl⟩ ?_
  refine z_auto rfl ?_
  refine z_cpy ⟨rfl, rfl, rfl, rfl, rfl, rfl, rfl⟩ ?_
  refine z_auto rfl ?_
  refine z_rt rfl (h _ (fun c i k h1 => ?_) (fun k hk => ?_) (fun c k hc1 hc2 hk => ?_) (fun k hk => ?_))
  · rw [zup_ne (by omega), zup_ne (by omega), zcp_ne (by omega), zcp_ne (by omega), zcp_ne (by omega), zcp_ne (by omega), zcp_ne (by omega), zcp_ne (by omega)]
  · rcases hk with rfl | rfl
    · rw [zup_ne (by omega), zup_eq, zcp_ne (by omega), zcp_ne (by omega), zcp_ne (by omega), zcp_ne (by omega), zcp_ne (by omega), zcp_ne (by omega)]
    · rw [zup_eq, zup_ne (by omega), zcp_ne (by omega), zcp_ne (by omega), zcp_ne (by omega), zcp_ne (by omega), zcp_ne (by omega), zcp_ne (by omega)]
  · rw [zup_ne (by omega), zup_ne (by omega), zcp_ne (by omega)]
    rcases (show c = 20 ∨ c = 21 ∨ c = 22 ∨ c = 23 ∨ c = 24 by omega) with rfl | rfl | rfl | rfl | rfl
    · rw [zcp_ne (by omega), zcp_ne (by omega), zcp_ne (by omega), zcp_ne (by omega)]
      exact zcp_eq hk
    · rw [zcp_ne (by omega), zcp_ne (by omega), zcp_ne (by omega)]
      exact (zcp_eq hk).trans (zcp_ne (by omega))
    · rw [zcp_ne (by omega), zcp_ne (by omega)]
      exact (zcp_eq hk).trans ((zcp_ne (by omega)).trans (zcp_ne (by omega)))
    · rw [zcp_ne (by omega)]
      exact (zcp_eq hk).trans ((zcp_ne (by omega)).trans ((zcp_ne (by omega)).trans (zcp_ne (by omega))))
    · exact (zcp_eq hk).trans ((zcp_ne (by omega)).trans ((zcp_ne (by omega)).trans ((zcp_ne (by omega)).trans (zcp_ne (by omega)))))
  · rw [zup_ne (by omega), zup_ne (by omega)]
    exact (zcp_eq hk).trans ((zcp_ne (by omega)).trans ((zcp_ne (by omega)).trans ((zcp_ne (by omega)).trans ((zcp_ne (by omega)).trans (zcp_ne (by omega))))))
set_option maxHeartbeats 4000000 in
set_option maxRecDepth 100000 in
theorem s_cp1 (hb : b ≠ b') (hw : I 2 b' 1 = 0 ∨ I 2 b' 1 = 1) (h : ∀ J, zPy I J b b' → Q none J (zRR rl rs)) : zWm (d + 1) 10 [zr 1 b, zr 1 b'] I (zRR rl rs) Q := by
  refine z_auto rfl ?_
  refine z_cl rfl (s_cp8 hb (fun J1 f1 u1 u2 => ?_))
  refine z_auto rfl ?_
  refine z_cl rfl (s_cp4 hb (fun J2 f2 v1 v2 v3 => ?_))
  have w2 : J2 2 b' 1 = I 2 b' 1 := (f2 _ _ _ (by omega)).trans (f1 _ _ _ (by omega))
  refine z_auto rfl ?_
  refine z_cl rfl (s_eggCopy (by rw [w2]; exact hw) ?_)
  obtain ⟨J3, hJ3⟩ : ∃ J3, J3 = zup (zup J2 2 b 0 (J2 2 b' 0)) 2 b 1 (zup J2 2 b 0 (J2 2 b' 0) 2 b' 1) := ⟨_, rfl⟩
  rw [← hJ3]
  have f3 : ∀ c i k, ¬ (c = 2 ∧ i = b) → J3 c i k = J2 c i k := fun c i k h1 => by rw [hJ3, zup_ne (by omega), zup_ne (by omega)]
  have x0 : J3 2 b 0 = J2 2 b' 0 := by rw [hJ3, zup_ne (by omega), zup_eq]
  have x1 : J3 2 b 1 = J2 2 b' 1 := by rw [hJ3, zup_eq, zup_ne (by omega)]
  clear hJ3
  refine z_auto rfl ?_
  refine z_cl rfl (s_cp7 (b := 2 * b) (b' := 2 * b') (by omega) (fun J4 f4 y1 y2 => ?_))
  refine z_auto rfl ?_
  refine z_cl rfl (s_cp7 (b := 2 * b + 1) (b' := 2 * b' + 1) (by omega) (fun J5 f5 z1 z2 => ?_))
  refine z_auto rfl ?_
  have g5 : ∀ c i k, ¬ ((c = 8 ∨ c = 29 ∨ c = 4 ∨ (20 ≤ c ∧ c ≤ 25) ∨ c = 2) ∧ i = b) → ¬ ((c = 7 ∨ (26 ≤ c ∧ c ≤ 28)) ∧ (i = 2 * b ∨ i = 2 * b + 1)) → J5 c i k = I c i k := fun c i k h1 h2 => by
    rw [f5 c i k (by omega), f4 c i k (by omega), f3 c i k (by omega), f2 c i k (by omega), f1 c i k (by omega)]
  refine z_rt rfl (h _ ⟨fun c k hc => ?_, fun c k e he hc => ?_, fun c i k h1 h2 => ?_⟩)
  · rcases hc with ⟨rfl, q | q⟩ | ⟨rfl, hk⟩ | ⟨rfl, hk⟩ | ⟨c1, c2, hk⟩ | ⟨rfl, hk⟩ | ⟨rfl, hk⟩ | ⟨rfl, hk⟩
    · subst q
      rw [zup_ne (by omega), zup_eq, g5 _ _ _ (by omega) (by omega)]
    · subst q
      rw [zup_eq, zup_ne (by omega), g5 _ _ _ (by omega) (by omega)]
    · rw [zup_ne (by omega), zup_ne (by omega), f5 _ _ _ (by omega), f4 _ _ _ (by omega)]
      rcases (show k = 0 ∨ k = 1 by omega) with rfl | rfl
      · rw [x0, f2 _ _ _ (by omega), f1 _ _ _ (by omega)]
      · rw [x1, f2 _ _ _ (by omega), f1 _ _ _ (by omega)]
    · rw [zup_ne (by omega), zup_ne (by omega), f5 _ _ _ (by omega), f4 _ _ _ (by omega), f3 _ _ _ (by omega), v1 k hk, f1 _ _ _ (by omega)]
    · rw [zup_ne (by omega), zup_ne (by omega), f5 _ _ _ (by omega), f4 _ _ _ (by omega), f3 _ _ _ (by omega), v2 c k c1 c2 hk, f1 _ _ _ (by omega)]
    · rw [zup_ne (by omega), zup_ne (by omega), f5 _ _ _ (by omega), f4 _ _ _ (by omega), f3 _ _ _ (by omega), v3 k hk, f1 _ _ _ (by omega)]
    · subst hk
      rw [zup_ne (by omega), zup_ne (by omega), f5 _ _ _ (by omega), f4 _ _ _ (by omega), f3 _ _ _ (by omega), f2 _ _ _ (by omega), u1]
    · rw [zup_ne (by omega), zup_ne (by omega), f5 _ _ _ (by omega), f4 _ _ _ (by omega), f3 _ _ _ (by omega), f2 _ _ _ (by omega), u2 k hk]
  · rcases (show e = 0 ∨ e = 1 by omega) with rfl | rfl
    · rw [zup_ne (by omega), zup_ne (by omega), f5 _ _ _ (by omega)]
      rcases hc with ⟨rfl, rfl⟩ | ⟨c1, c2, hk⟩
      · exact y1.trans (by rw [f3 _ _ _ (by omega), f2 _ _ _ (by omega), f1 _ _ _ (by omega)]; rfl)
      · exact (y2 c k (by omega) hk).trans (by rw [f3 _ _ _ (by omega), f2 _ _ _ (by omega), f1 _ _ _ (by omega)]; rfl)
    · rw [zup_ne (by omega), zup_ne (by omega)]
      rcases hc with ⟨rfl, rfl⟩ | ⟨c1, c2, hk⟩
      · rw [z1, f4 _ _ _ (by omega), f3 _ _ _ (by omega), f2 _ _ _ (by omega), f1 _ _ _ (by omega)]
      · rw [z2 c k (by omega) hk, f4 _ _ _ (by omega), f3 _ _ _ (by omega), f2 _ _ _ (by omega), f1 _ _ _ (by omega)]
  · rw [zup_ne (by omega), zup_ne (by omega), g5 c i k (by omega) (by omega)]
end
