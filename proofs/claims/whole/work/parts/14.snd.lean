section
variable {dC : Nat → ClassId} {dI : Nat → Nat → Nat} {cI cZ cS : ClassId} {ad : zAD} {adV : Nat → Nat} {A : Nat → Prop}
theorem zckm_ok {k : Nat} (hk : k < zmT.length) : (∀ b, b < (zgp zpcL k).length → zck (zmu k).1 (zmu k).2.2.2 (zgp zpcL k) (zmt k).2.1 (zgn (zgp zpcL k) b) (zblk (zbm k) b) = true) ∧ (parseMethodDescriptor (zmt k).1.desc).map (fun d => d.parameters.length) = some (zmu k).2.1 ∧ zrk (zmu k).2.2.2 (zmt k).2.2.2 = true ∧ ((zmt k).1.cls = zcn (zmu k).1 ∧ (zmu k).1 ≤ 10 ∧ (zmt k).2.2.1 ≤ 40) ∧ zgn (zgp zpcL k) 0 = 0 ∧ plainName (zmt k).1.cls = true ∧ ((zmt k).1.cls ≠ "java/lang/invoke/MethodHandle" ∧ (zmt k).1.cls ≠ "java/lang/invoke/VarHandle") := by
  have h := zgp_zckm k hk
  rw [zckm, Bool.and_eq_true, Bool.and_eq_true, Bool.and_eq_true, Bool.and_eq_true, Bool.and_eq_true, Bool.and_eq_true] at h
  obtain ⟨h1, h2, h3, h4, ⟨h5, h6⟩, h7⟩ := h
  exact ⟨zcb_ok _ _ h1, of_decide_eq_true h2, h3, of_decide_eq_true h4, of_decide_eq_true h5, h6, of_decide_eq_true h7⟩
/-- what n steps come to, the machine comes to -/
def zSnd (dC : Nat → ClassId) (dI : Nat → Nat → Nat) (cI cZ cS : ClassId) (ad : zAD) (adV : Nat → Nat) (A : Nat → Prop) (l : Launch) (n : Nat) : Prop :=
  ∀ (d own ret : Nat) (pcs : List Nat) (cc : ByteArray) (nL : Nat) (B : List (List zAI)), (∀ b, b < pcs.length → zck own ret pcs cc (zgn pcs b) (zblk B b) = true) →
    ∀ (is : List zAI) (pc : Nat) (L : zXL) (S : List zAV) (I : zMI) (G : zMR) (r : zRS), zck own ret pcs cc pc is = true → zrun n d B is L S I G = some r →
    ∀ (p : Program) (e : Env) (R : Room) (s : State) (m : MethodId) (args : Array Value) (below : List Frame) (meth : Method) (c : Code), zCx dC dI cI cZ cS ad adV A p R s m args meth c d own ret nL cc →
      zP dC dI cI cZ cS ad adV A p l e R s m args below meth c nL r pc L S I G
theorem zMet {l : Launch} {n : Nat} (IH : zSnd dC dI cI cZ cS ad adV A l n) (hAp : zAp ad A) {d k : Nat} (hk : k < zmT.length) {a : List zAV} {I : zMI} {G : zMR} {r : zRS} (ha : zVs a) (h : zrun n d (zbm k) (zcode k a) (zent k a) [] I G = some r) :
    Met l (zmt k).1 (zmkW (zmt k) :: zgw) (zrm d) (va_Pc (a.map (zcv ad)) (zwd dC dI cI cZ cS ad adV A I G)) (zQ dC dI cI cZ cS ad adV A r) 0 0 A := by
  obtain ⟨h1, h2, h3, h4, h5, h6, h7⟩ := zckm_ok hk
  have hfit : zfits (zarg a) (zmt k).2.2.1 = true := by
    cases hf : zfits (zarg a) (zmt k).2.2.1 with
    | true => rfl
    | false =>
      have : zcode k a = [] := by unfold zcode; rw [hf]
      rw [this] at h
      cases n <;> cases h
  have hcode : zcode k a = zblk (zbm k) 0 := by unfold zcode; rw [hfit]
  rw [hcode] at h
  have h0 : 0 < (zgp zpcL k).length ∨ zblk (zbm k) 0 = [] := by
    cases hl : (zgp zpcL k) with
    | cons q t => exact Or.inl (by simp)
    | nil =>
      right
      have hz := zgp_zckm k hk
      rw [zckm, Bool.and_eq_true, hl] at hz
      cases hb : zbm k with
      | nil => rfl
      | cons q t => rw [hb] at hz; cases hz.1
  have hck : zck (zmu k).1 (zmu k).2.2.2 (zgp zpcL k) (zmt k).2.1 0 (zblk (zbm k) 0) = true := by
    rcases h0 with h0 | h0
    · have := h1 0 h0
      rw [h5] at this
      exact this
    · rw [h0]; rfl
  refine Met.ofW (cc := (zmt k).2.1) (maxL := (zmt k).2.2.1) (ret := (zmt k).2.2.2) h6 rfl ?_
  intro p e s m args below meth c s₁ B hml hv
  obtain ⟨rfl, hP, hK, hSt, hG⟩ := hv
  have hts := atoms_spec (ws := zmkW (zmt k) :: zgw) B.pre
  rw [lg_entry_eq]
  have hl := lv_entry (a.map (zcv ad)) (n := (zmt k).2.2.1) (by rw [zarg_len]; exact zfits_ok _ _ hfit)
  have hown : s.vm.findClass (zcn (zmu k).1) = some m.cls := by
    have := findClass_of_methodNamed B.named
    rw [h4.1] at this
    exact this
  refine IH d (zmu k).1 (zmu k).2.2.2 (zgp zpcL k) (zmt k).2.1 (zmt k).2.2.1 (zbm k) h1 _ 0 _ _ I G r hck h p e _ s m _ below meth c ⟨B.exec, B.bytes, hml, hown, fun w hw => hts w (List.mem_cons_of_mem _ hw), B.notSynchronized, by rw [B.returns]; exact h3, hK, hSt, hAp, Nat.le_refl _, Nat.le_refl _⟩ s.heap [] _ hP va_S.rf ⟨zpad_len _ _, hl.1, hl.2.1, fun q hq => hl.2.2 q ?_⟩ hG trivial ?_
  · obtain ⟨v, e1, e2⟩ := zla_in.mp hq
    have := zarg_in (ad := ad) a 0 q.1 v (zpad_get _ _ _ _ e1)
    rw [Nat.zero_add] at this
    obtain ⟨q1, q2⟩ := q
    cases e2
    exact this
  · intro j v hj
    exact zarg_V a ha j v (zpad_get _ _ _ _ hj)
theorem zpush_map (v : Option zAV) (S : List zAV) : (v.map (zcv ad)).toList ++ S.map (zcv ad) = (zpush v S).map (zcv ad) := by
  cases v <;> rfl
theorem zVs_push {v : Option zAV} {S : List zAV} (hv : zVo v) (hS : zVs S) : zVs (zpush v S) := by
  cases v with
  | none => exact hS
  | some v => exact ⟨hv, hS⟩
theorem zsnd {l : Launch} (hT : zTx dC dI cI cZ cS ad adV A l) (hAp0 : zAp ad A) : ∀ n, zSnd dC dI cI cZ cS ad adV A l n := by
  intro n
  induction n with
  | zero => intro d own ret pcs cc nL B hB is pc L S I G r hck h; cases h
  | succ n ih =>
    intro d own ret pcs cc nL B hB is pc L S I G r hck h p e R s m args below meth c X
    cases is with
    | nil => cases h
    | cons ai is =>
      rw [zck] at hck
      by_cases h12 : ai.1 = 12
      · rw [if_pos h12] at hck
        obtain ⟨g1, g2⟩ := of_decide_eq_true hck
        obtain ⟨a1, a2, a3, a4⟩ := ai
        have h12 : a1 = 12 := h12
        subst h12
        rw [zrun] at h
        have e0 : zex (12, a2, a3, a4) L S I G = zeJ a2 (L, S, I, G) := rfl
        rw [e0] at h
        have h' : zrun n d B (zblk B a2) L S I G = some r := h
        have := ih d own ret pcs cc nL B hB (zblk B a2) pc L S I G r (by have := hB a2 g1; rw [show zgn pcs a2 = pc from g2] at this; exact this) h' p e R s m args below meth c X
        exact this
      · rw [if_neg h12] at hck
        cases hd : decode cc pc with
        | error x => rw [hd] at hck; cases hck
        | ok q =>
          obtain ⟨ins, len⟩ := q
          rw [hd] at hck
          have hck := Bool.and_eq_true_iff.mp hck
          rw [zrun] at h
          rcases zx_all (e := e) (below := below) (L := L) (S := S) (I := I) (G := G) hT X hck.1 hd with hg | ⟨x, k, rfl, rfl, rfl, hml0, hk⟩ | ⟨x, k, rfl, rfl, rfl, hml0, hk⟩
          · cases he : zex ai L S I G with
            | inl j =>
              obtain ⟨o, L', S', I', G'⟩ := j
              rw [he] at h hg
              cases o with
              | none => exact hg r (ih d own ret pcs cc nL B hB is (pc + len) L' S' I' G' r hck.2 h p e R s m args below meth c X)
              | some b => exact hg.2 r (ih d own ret pcs cc nL B hB (zblk B b) (zgn pcs b) L' S' I' G' r (hB b hg.1) h p e R s m args below meth c X)
            | inr j =>
              rw [he] at h hg
              cases j with
              | inl q => exact hg.elim
              | inr o =>
                cases o with
                | none => cases h
                | some r' => cases h; exact hg
          · obtain ⟨h1, h2, h3, h4, h5, h6, h7⟩ := zckm_ok hk
            have hR := X.2.2.2.2.2.2.2.2.2.2
            have hK := X.2.2.2.2.2.2.2.1
            have e0 : zex (58, k, 16 * ((zmu k).2.1 + 1) + (zmu k).1, 0) L S I G = (match zpop ((16 * ((zmu k).2.1 + 1) + (zmu k).1) / 16) [] S with | some (a, S') => if zshort S' = true ∧ zrcv ((16 * ((zmu k).2.1 + 1) + (zmu k).1) % 16) a = true then zeC k a (L, S', I, G) else zeF | none => zeF) := rfl
            have d1 : (16 * ((zmu k).2.1 + 1) + (zmu k).1) / 16 = (zmu k).2.1 + 1 := by omega
            have d2 : (16 * ((zmu k).2.1 + 1) + (zmu k).1) % 16 = (zmu k).1 := by omega
            rw [d1, d2] at e0
            cases hp : zpop ((zmu k).2.1 + 1) [] S with
            | none => rw [hp] at e0; rw [e0] at h; cases h
            | some q =>
              obtain ⟨a, S'⟩ := q
              rw [hp] at e0
              dsimp only at e0
              by_cases hc : zshort S' = true ∧ zrcv (zmu k).1 a = true
              · rw [if_pos hc] at e0
                rw [e0] at h
                dsimp only at h
                cases d with
                | zero => cases h
                | succ d =>
                  dsimp only at h
                  cases hr : zrun n d (zbm k) (zcode k a) (zent k a) [] I G with
                  | none => rw [hr] at h; cases h
                  | some r1 =>
                    obtain ⟨v, I2, G2⟩ := r1
                    rw [hr] at h
                    obtain ⟨t, t1, t2, t3⟩ := zpop_ok _ _ _ _ _ hp
                    rw [List.append_nil] at t3
                    subst t2
                    subst t3
                    intro H locs ls hP hS hl hG hv hL
                    have hva := (zVs_app.mp hv)
                    have ha := zVs_rev hva.1
                    have hM := zMet (l := l) ih X.2.2.2.2.2.2.2.2.2.1 hk ha hr
                    cases hrv : t.reverse with
                    | nil => rw [hrv] at hc; cases hc.2
                    | cons v0 As =>
                      rw [hrv] at hc hM ha
                      rcases v0 with y | y | y | ⟨c0, j0⟩
                      · cases hc.2
                      · cases hc.2
                      · cases hc.2
                      have hc0 : c0 = (zmu k).1 := by
                        have := hc.2
                        exact eq_of_beq this
                      have hlen : As.length = (zmu k).2.1 := by
                        have := congrArg List.length hrv
                        simp at this
                        omega
                      have hz : (c0, j0) ∈ zo := zzo ha.1 (by omega) (by omega)
                      obtain ⟨q0, hq, he⟩ := zws_at (cI := cI) (cZ := cZ) (cS := cS) (ad := ad) (I := I) (G := G) hz
                      rw [zce_obj (by omega)] at he
                      have ht : t = As.reverse ++ [zr c0 j0] := by
                        have := congrArg List.reverse hrv
                        rw [List.reverse_reverse, List.reverse_cons] at this
                        exact this
                      have hst : (t ++ S').map (zcv ad) = (As.map (zcv ad)).reverse ++ .ref (ad c0 j0) :: S'.map (zcv ad) := by
                        rw [ht]
                        simp [List.map_reverse, zcv]
                      rw [hst]
                      refine zcallV (r := (v, I2, G2)) (As := As.map (zcv ad)) (C := (zmt k).1.cls) X hM ?_ ⟨rfl, rfl, by show d + 8 + 1 ≤ _; omega, by show 8 + (_ + 11) + (64 * d + 512) ≤ _; omega⟩ ⟨rfl, h7.1, h7.2, by rw [List.length_map, hlen]; exact h2⟩ hc.1 hP hS hl.2.1 hG ?_ hd (fun H1 locs1 hP1 hG1 hvo hS1 => ?_)
                      · intro w hw
                        simp only [List.mem_cons, List.not_mem_nil, or_false] at hw
                        rcases hw with rfl | rfl | rfl | rfl | rfl
                        · exact zml_in hml0 _ (by simp [zmlW])
                        · exact zml_in hml0 _ (by simp [zmlW])
                        · exact zml_in hml0 _ (by simp [zmlW])
                        · exact zml_in hml0 _ (by simp [zmlW])
                        · exact zmk_in (zmt_in k hk)
                      · rw [h4.1, ← hc0]
                        exact va_recv hK hP (zvw c0 (by omega)) he
                      · rw [zpush_map]
                        exact ih (d + 1) own ret pcs cc nL B hB is (pc + 3) L (zpush v S') I2 G2 r hck.2 h p e R s m args below meth c X H1 locs1 ls hP1 hS1 hl hG1 (zVs_push hvo hva.2) hL
              · rw [if_neg hc] at e0
                rw [e0] at h
                cases h
          · obtain ⟨h1, h2, h3, h4, h5, h6, h7⟩ := zckm_ok hk
            have hR := X.2.2.2.2.2.2.2.2.2.2
            have e0 : zex (23, k, (zmu k).2.1, 0) L S I G = (match zpop (zmu k).2.1 [] S with | some (a, S') => if zshort S' = true then zeC k a (L, S', I, G) else zeF | none => zeF) := rfl
            cases hp : zpop (zmu k).2.1 [] S with
            | none => rw [hp] at e0; rw [e0] at h; cases h
            | some q =>
              obtain ⟨a, S'⟩ := q
              rw [hp] at e0
              dsimp only at e0
              by_cases hc : zshort S' = true
              · rw [if_pos hc] at e0
                rw [e0] at h
                dsimp only at h
                cases d with
                | zero => cases h
                | succ d =>
                  dsimp only at h
                  cases hr : zrun n d (zbm k) (zcode k a) (zent k a) [] I G with
                  | none => rw [hr] at h; cases h
                  | some r1 =>
                    obtain ⟨v, I2, G2⟩ := r1
                    rw [hr] at h
                    obtain ⟨t, t1, t2, t3⟩ := zpop_ok _ _ _ _ _ hp
                    rw [List.append_nil] at t3
                    subst t2
                    subst t3
                    intro H locs ls hP hS hl hG hv hL
                    have hva := (zVs_app.mp hv)
                    have ha := zVs_rev hva.1
                    have hM := zMet (l := l) ih X.2.2.2.2.2.2.2.2.2.1 hk ha hr
                    have hst : (t ++ S').map (zcv ad) = (t.reverse.map (zcv ad)).reverse ++ S'.map (zcv ad) := by
                      simp [List.map_reverse]
                    rw [hst]
                    refine zcallS (r := (v, I2, G2)) (As := t.reverse.map (zcv ad)) X hM ?_ ⟨rfl, rfl, by show d + 8 + 1 ≤ _; omega, by show 8 + (_ + 11) + (64 * d + 512) ≤ _; omega⟩ ⟨h7.1, h7.2, by rw [List.length_map, List.length_reverse, t1]; exact h2⟩ hc hP hS hl.2.1 hG hd (fun H1 locs1 hP1 hG1 hvo hS1 => ?_)
                    · intro w hw
                      simp only [List.mem_cons, List.not_mem_nil, or_false] at hw
                      rcases hw with rfl | rfl | rfl | rfl
                      · exact zml_in hml0 _ (by simp [zmlW])
                      · exact zml_in hml0 _ (by simp [zmlW])
                      · exact zml_in hml0 _ (by simp [zmlW])
                      · exact zmk_in (zmt_in k hk)
                    · rw [zpush_map]
                      exact ih (d + 1) own ret pcs cc nL B hB is (pc + 3) L (zpush v S') I2 G2 r hck.2 h p e R s m args below meth c X H1 locs1 ls hP1 hS1 hl hG1 (zVs_push hvo hva.2) hL
              · rw [if_neg hc] at e0
                rw [e0] at h
                cases h
/-- a contract for the machine out of a run of the abstract machine -/
theorem zmet {l : Launch} (hT : zTx dC dI cI cZ cS ad adV A l) (hAp : zAp ad A) {d k : Nat} (hk : k < zmT.length) {a : List zAV} {I : zMI} {G : zMR} (ha : zVs a) {Q : zPQ} (h : zWm d k a I G Q) :
    ∃ r : zRS, Q r.1 r.2.1 r.2.2 ∧ Met l (zmt k).1 (zmkW (zmt k) :: zgw) (zrm d) (va_Pc (a.map (zcv ad)) (zwd dC dI cI cZ cS ad adV A I G)) (zQ dC dI cI cZ cS ad adV A r) 0 0 A := by
  obtain ⟨n, v, I', G', h1, h2⟩ := h
  exact ⟨(v, I', G'), h2, zMet (zsnd hT hAp n) hAp hk ha h1⟩
end
